/-! The parts of the ways; parted, make. -/
theorem X0_partG {σ : q_M} {k n : Nat} {S x : Int64} (B : Blk σ k n) (hS : inB n S) : fX0_partAround k S x σ = some (part n S (x &&& S), σ) := by
  have hn := B.1
  have hx : sbs (x &&& S) S := fun c hc => by rw [tb_and, Bool.and_eq_true] at hc; exact hc.2
  have key : ∀ d i f, i + d = 64 → d < f → fX0_partAround_c8 k S x f (itr n S (x &&& S) i) (nI i) σ = some (part n S (x &&& S), σ) := by
    intro d
    induction d with
    | zero =>
      intro i f h1 h2
      obtain ⟨f, rfl⟩ : ∃ z, f = z + 1 := ⟨f - 1, by omega⟩
      have : i = 64 := by omega
      subst this
      show fX0_partAround_c8b k S x (fX0_partAround_c8 k S x f) (itr n S (x &&& S) 64) (nI 64) σ = _
      unfold fX0_partAround_c8b
      rw [if_pos (show (64 : Int32) ≤ nI 64 by decide)]
      rfl
    | succ d ih =>
      intro i f h1 h2
      obtain ⟨f, rfl⟩ : ∃ z, f = z + 1 := ⟨f - 1, by omega⟩
      show fX0_partAround_c8b k S x (fX0_partAround_c8 k S x f) (itr n S (x &&& S) i) (nI i) σ = _
      unfold fX0_partAround_c8b
      rw [if_neg (show ¬ (64 : Int32) ≤ nI i from nI_ge (a := i) (b := 64) (by omega) (by decide)), X0_beside B (sbs_in (itr_in hn hx i) hS), bs]
      by_cases q : stp n S (itr n S (x &&& S) i) = itr n S (x &&& S) i
      · have q2 : (itr n S (x &&& S) i ||| (bsd n (itr n S (x &&& S) i) 6 &&& S)) = itr n S (x &&& S) i := q
        rw [if_pos q2]
        have := itr_co q (64 - i)
        rw [show i + (64 - i) = 64 by omega] at this
        unfold part
        rw [this]
      · have q2 : ¬ (itr n S (x &&& S) i ||| (bsd n (itr n S (x &&& S) i) 6 &&& S)) = itr n S (x &&& S) i := q
        rw [if_neg q2, nI_1]
        exact ih (i + 1) f (by omega) (by omega)
  unfold fX0_partAround
  exact key 64 0 q_FU (by omega) (by decide)
def lwi (R : Int64) : Nat := (List.range 64).findIdx (tb R)
def wl (n : Nat) (x : Int64) (ws l : Nat) : Nat := (wv n x ws l).toNatClampNeg
/-- the part that has a cube -/
def plP (n : Nat) (x : Int64) (ws l : Nat) : Int64 := part n (ownL n x ws (wl n x ws l)) (bit l)
def nxt (n : Nat) (x : Int64) (ws : Nat) (R : Int64) : Int64 := if R = 0 then 0 else dif R (plP n x ws (lwi R))
def sqP (n : Nat) (x : Int64) (ws : Nat) : Nat → Int64
  | 0 => emp n x
  | j + 1 => nxt n x ws (sqP n x ws j)
/-- how many parts of all ways a set has -/
def tot (n : Nat) (x : Int64) (ws : Nat) (R : Int64) : Nat := smF (fun w => cp n (R &&& ownL n x ws w)) 6
def Gd (n : Nat) (x : Int64) (ws : Nat) (R : Int64) : Prop := sbs R (emp n x) ∧ ∀ w, w < 6 → Sep n (R &&& ownL n x ws w) (ownL n x ws w)
theorem and_idem {x y : Int64} (h : sbs y x) : x &&& y = y := sbs_eq (fun c hc => by rw [tb_and, Bool.and_eq_true] at hc; exact hc.2) (fun c hc => by rw [tb_and, h c hc, hc]; rfl)
theorem own_emp {n : Nat} (hn : Sz n) {x : Int64} {ws w : Nat} (hw : w < 6) : sbs (ownL n x ws w) (emp n x) := fun c hc => by
  obtain ⟨h1, h2⟩ := (tb_own hn).mp hc
  exact (tb_emp hn).mpr ⟨h1, ((wv_iff hw).mp h2).1⟩
theorem Gd_emp {n : Nat} (hn : Sz n) {x : Int64} {ws : Nat} : Gd n x ws (emp n x) := ⟨sbs_rf _, fun w hw => by
  rw [and_idem (own_emp hn hw)]
  exact sep_rf _⟩
theorem lwi_s {R : Int64} (h : R ≠ 0) : lwi R < 64 ∧ tb R (lwi R) = true ∧ (∀ j, j < lwi R → tb R j = false) ∧ (R &&& -R) = bit (lwi R) := by
  obtain ⟨l, l1, l2, l3, l4⟩ := low_bit h
  have : lwi R = l := fI_go l2 l3 64 l1
  rw [this]
  exact ⟨l1, l2, l3, l4⟩
theorem wl_s {n : Nat} (hn : Sz n) {x : Int64} {ws l : Nat} (hs : srv n x ws = true) (hl : tb (emp n x) l = true) : wl n x ws l < 6 ∧ wv n x ws l = nI (wl n x ws l) ∧ tb (ownL n x ws (wl n x ws l)) l = true := by
  obtain ⟨h1, h2⟩ := (tb_emp hn).mp hl
  obtain ⟨w, w1, w2⟩ := wv_srv hn hs h1 h2
  have e : wl n x ws l = w := by unfold wl; rw [w2, nI_clamp (by omega)]
  rw [e]
  exact ⟨w1, w2, (tb_own hn).mpr ⟨h1, w2⟩⟩
theorem own_dis {n : Nat} (hn : Sz n) {x : Int64} {ws u w c : Nat} (hu : u < 6) (hw : w < 6) (h : u ≠ w) (hc : tb (ownL n x ws u) c = true) : tb (ownL n x ws w) c = false := by
  cases q : tb (ownL n x ws w) c with
  | false => rfl
  | true =>
    have := ((tb_own hn).mp hc).2.symm.trans ((tb_own hn).mp q).2
    exact absurd ((nI_eq (by omega) (by omega)).mp this) h
theorem step_G {n : Nat} (hn : Sz n) {x : Int64} {ws : Nat} (hs : srv n x ws = true) {R : Int64} (hR : R ≠ 0) (hG : Gd n x ws R) : Gd n x ws (nxt n x ws R) ∧ tot n x ws R = 1 + tot n x ws (nxt n x ws R) ∧ cnt (nxt n x ws R) < cnt R := by
  obtain ⟨l1, l2, l3, l4⟩ := lwi_s hR
  obtain ⟨v1, v2, v3⟩ := wl_s hn hs (hG.1 _ l2)
  have hO := inB_own hn (x := x) (ws := ws) (w := wl n x ws (lwi R))
  have sO : sbs (bit (lwi R)) (ownL n x ws (wl n x ws (lwi R))) := bit_sbs l1 v3
  have inR : tb (R &&& ownL n x ws (wl n x ws (lwi R))) (lwi R) = true := by rw [tb_and, l2, v3]; rfl
  have sR : sbs (bit (lwi R)) (R &&& ownL n x ws (wl n x ws (lwi R))) := bit_sbs l1 inR
  have hsep := hG.2 (wl n x ws (lwi R)) v1
  have ep : part n (R &&& ownL n x ws (wl n x ws (lwi R))) (bit (lwi R)) = plP n x ws (lwi R) := part_sep hn hO hsep sR
  have hP : sbs (plP n x ws (lwi R)) (ownL n x ws (wl n x ws (lwi R))) := part_in hn sO
  have en : nxt n x ws R = dif R (plP n x ws (lwi R)) := if_neg hR
  have e0 : nxt n x ws R &&& ownL n x ws (wl n x ws (lwi R)) = dif (R &&& ownL n x ws (wl n x ws (lwi R))) (plP n x ws (lwi R)) := by
    rw [en]
    apply tb_ext
    intro c _
    rw [Bool.eq_iff_iff, tb_and, Bool.and_eq_true, tb_dif, tb_dif, tb_and, Bool.and_eq_true]
    exact ⟨fun ⟨⟨a, b⟩, d⟩ => ⟨⟨a, d⟩, b⟩, fun ⟨⟨a, b⟩, d⟩ => ⟨⟨a, d⟩, b⟩⟩
  have ew : ∀ w, w < 6 → w ≠ wl n x ws (lwi R) → nxt n x ws R &&& ownL n x ws w = R &&& ownL n x ws w := fun w hw hne => by
    rw [en]
    apply tb_ext
    intro c _
    rw [Bool.eq_iff_iff, tb_and, Bool.and_eq_true, tb_dif, tb_and, Bool.and_eq_true]
    refine ⟨fun ⟨⟨a, _⟩, d⟩ => ⟨a, d⟩, fun ⟨a, d⟩ => ⟨⟨a, ?_⟩, d⟩⟩
    cases q : tb (plP n x ws (lwi R)) c with
    | false => rfl
    | true =>
      rw [own_dis hn v1 hw (fun z => hne z.symm) (hP c q)] at d; cases d
  have hlow : ((R &&& ownL n x ws (wl n x ws (lwi R))) &&& -(R &&& ownL n x ws (wl n x ws (lwi R)))) = bit (lwi R) := tb_low1 l1 inR (fun j hj => by rw [tb_and, l3 j hj]; rfl)
  have hne : R &&& ownL n x ws (wl n x ws (lwi R)) ≠ 0 := fun z => by rw [z, tb_0] at inR; cases inR
  refine ⟨⟨fun c hc => ?_, fun w hw => ?_⟩, ?_, ?_⟩
  · rw [en] at hc
    exact hG.1 c (tb_dif.mp hc).1
  · by_cases q : w = wl n x ws (lwi R)
    · rw [q, e0, ← ep]
      exact sep_dif hn hO hsep sR
    · rw [ew w hw q]
      exact hG.2 w hw
  · have hc : cp n (R &&& ownL n x ws (wl n x ws (lwi R))) = 1 + cp n (nxt n x ws R &&& ownL n x ws (wl n x ws (lwi R))) := by
      rw [cp_s hne, hlow, ep, e0]
    unfold tot
    have gen : ∀ k, k ≤ 6 → smF (fun w => cp n (R &&& ownL n x ws w)) k = (if wl n x ws (lwi R) < k then 1 else 0) + smF (fun w => cp n (nxt n x ws R &&& ownL n x ws w)) k := by
      intro k
      induction k with
      | zero => intro _; rfl
      | succ k ih =>
        intro hk
        show smF (fun w => cp n (R &&& ownL n x ws w)) k + cp n (R &&& ownL n x ws k) = _ + (smF (fun w => cp n (nxt n x ws R &&& ownL n x ws w)) k + cp n (nxt n x ws R &&& ownL n x ws k))
        rw [ih (by omega)]
        by_cases q : k = wl n x ws (lwi R)
        · rw [q, hc, if_neg (by omega), if_pos (by omega)]
          omega
        · rw [ew k (by omega) q]
          by_cases z : wl n x ws (lwi R) < k
          · rw [if_pos z, if_pos (by omega)]
            omega
          · rw [if_neg z, if_neg (by omega)]
            omega
    rw [gen 6 (Nat.le_refl _), if_pos v1]
  · rw [en]
    refine cnt_lt (dif_sbs _ _) (e := lwi R) ?_ l2
    cases z : tb (dif R (plP n x ws (lwi R))) (lwi R) with
    | false => rfl
    | true =>
      have := (tb_dif.mp z).2
      rw [show tb (plP n x ws (lwi R)) (lwi R) = true from part_up n _ (bit (lwi R)) (lwi R) ((tb_b l1).mpr rfl)] at this; cases this
theorem tot_0 (n : Nat) (x : Int64) (ws : Nat) : tot n x ws 0 = 0 := by
  have h0 : ∀ w, (0 : Int64) &&& ownL n x ws w = 0 := fun w => tb_ext fun c _ => by rw [tb_and, tb_0]; rfl
  unfold tot
  show cp n (0 &&& ownL n x ws 0) |> fun a => 0 + a + cp n (0 &&& ownL n x ws 1) + cp n (0 &&& ownL n x ws 2) + cp n (0 &&& ownL n x ws 3) + cp n (0 &&& ownL n x ws 4) + cp n (0 &&& ownL n x ws 5) = 0
  simp only [h0, cp_0]
theorem Gd_0 (n : Nat) (x : Int64) (ws : Nat) : Gd n x ws 0 := by
  have h0 : ∀ w, (0 : Int64) &&& ownL n x ws w = 0 := fun w => tb_ext fun c _ => by rw [tb_and, tb_0]; rfl
  have z0 : ∀ (c : Nat) (P : Prop), tb 0 c = true → P := fun c P hc => by
    rw [tb_0] at hc
    cases hc
  refine ⟨fun c hc => z0 c _ hc, fun w hw => ?_⟩
  rw [h0]
  exact ⟨fun c hc => z0 c _ hc, fun c d hc _ _ => z0 c _ hc⟩
theorem Gd_sq {n : Nat} (hn : Sz n) {x : Int64} {ws : Nat} (hs : srv n x ws = true) : ∀ j, Gd n x ws (sqP n x ws j)
  | 0 => Gd_emp hn
  | j + 1 => by
    have ih := Gd_sq hn hs j
    show Gd n x ws (nxt n x ws (sqP n x ws j))
    by_cases q : sqP n x ws j = 0
    · have : nxt n x ws (sqP n x ws j) = 0 := if_pos q
      rw [this]; exact Gd_0 n x ws
    · exact (step_G hn hs q ih).1
theorem X1_owned {σ : q_M} {n ws : Nat} {x : Int64} (B : Blk σ 2 n) (W : OW σ n x ws) : fX1_countOwnedParts 2 σ = some (nI (tot n x ws (emp n x)), σ) := by
  have hn := B.1
  have e : tot n x ws (emp n x) = smF (fun w => cp n (ownL n x ws w)) 6 := smF_cg fun w hw => by rw [and_idem (own_emp hn hw)]
  rw [e]
  unfold fX1_countOwnedParts
  refine lq2 (fX1_countOwnedParts_c4 2) σ (fun i => nI (smF (fun w => cp n (ownL n x ws w)) i)) 6 _ (by decide) ?_ ?_
  · intro f i hi
    show fX1_countOwnedParts_c4b 2 (fX1_countOwnedParts_c4 2 f) (nI (smF (fun w => cp n (ownL n x ws w)) i)) (nI i) σ = fX1_countOwnedParts_c4 2 f (nI (smF (fun w => cp n (ownL n x ws w)) i + cp n (ownL n x ws i))) (nI (i + 1)) σ
    unfold fX1_countOwnedParts_c4b
    rw [if_neg (show ¬ (6 : Int32) ≤ nI i from nI_ge (a := i) (b := 6) hi (by decide)), gd hi (by decide), nI_clamp (by omega), W i hi, X0_countParts B (inB_own hn), bs, nI_add, nI_1]
  · intro f
    show fX1_countOwnedParts_c4b 2 (fX1_countOwnedParts_c4 2 f) (nI (smF (fun w => cp n (ownL n x ws w)) 6)) (nI 6) σ = _
    unfold fX1_countOwnedParts_c4b
    rw [if_pos (show (6 : Int32) ≤ nI 6 by decide)]
/-- the reference's parts -/
theorem M_alike {τ : q_M} {n ws c : Nat} {v1 : Int64} {v3 : Int32} (h : MN τ n) (W : WY τ n (τ.2 0 12) ws) (hs : srv n (τ.2 0 12) ws = true) (hc : tb (emp n (τ.2 0 12)) c = true) (rec10 : Int64 → Int32 → Int32 → q_M → Option (Int32 × q_M)) : fX9_findParts_c34 0 rec10 q_FU v1 v3 (nI c) 0 0 τ = fX9_findParts_c34b 0 rec10 (fX9_findParts_c34 0 rec10 (399 - n * n * n)) v1 v3 (nI c) (ownL n (τ.2 0 12) ws (wl n (τ.2 0 12) ws c)) (nI (n * n * n)) τ := by
  have hn := h.1
  have h64 := hn.cube
  have hc' := ((tb_emp hn).mp hc).1
  obtain ⟨w1, w2, _⟩ := wl_s hn hs hc
  let P : Nat → Bool := fun d => decide (wv n (τ.2 0 12) ws d = nI (wl n (τ.2 0 12) ws c)) && tb (emp n (τ.2 0 12)) d
  have eP : mkN P (n * n * n) = ownL n (τ.2 0 12) ws (wl n (τ.2 0 12) ws c) := by
    apply tb_ext
    intro d _
    rw [tb_mkN _ _ h64, Bool.eq_iff_iff, tb_own hn, Bool.and_eq_true, decide_eq_true_iff]
    show d < n * n * n ∧ (decide (wv n (τ.2 0 12) ws d = nI (wl n (τ.2 0 12) ws c)) && tb (emp n (τ.2 0 12)) d) = true ↔ _
    rw [Bool.and_eq_true, decide_eq_true_iff]
    constructor
    · rintro ⟨a, b, _⟩; exact ⟨a, b⟩
    · rintro ⟨a, b⟩; exact ⟨a, b, own_emp hn w1 d ((tb_own hn).mpr ⟨a, b⟩)⟩
  have st : ∀ f d, d < n * n * n → fX9_findParts_c34 0 rec10 (f + 1) v1 v3 (nI c) (mkN P d) (nI d) τ = fX9_findParts_c34 0 rec10 f v1 v3 (nI c) (mkN P (d + 1)) (nI (d + 1)) τ := by
    intro f d hd
    show fX9_findParts_c34b 0 rec10 (fX9_findParts_c34 0 rec10 f) v1 v3 (nI c) (mkN P d) (nI d) τ = _
    unfold fX9_findParts_c34b
    rw [M_many h, bs, if_neg (nI_ge hd (by omega)), gd (show d < 64 by omega) (by decide), gd (show c < 64 by omega) (by decide), nI_clamp (show d < 2 ^ 31 by omega), nI_clamp (show c < 2 ^ 31 by omega), show τ.1 (0 + 17) d = wv n (τ.2 0 12) ws d from W d hd, show τ.1 (0 + 17) c = nI (wl n (τ.2 0 12) ws c) from (W c hc').trans w2, or0, nI_1]
    by_cases q : wv n (τ.2 0 12) ws d = nI (wl n (τ.2 0 12) ws c)
    · rw [if_pos q, M_empty h, bs]
      cases y : tb (emp n (τ.2 0 12)) d with
      | false => rw [M_hasF (by omega) y, bs, if_pos rfl, mkN_f (show P d = false by show (decide _ && tb (emp n (τ.2 0 12)) d) = false; rw [y, Bool.and_false])]
      | true => rw [M_hasT (by omega) y, bs, if_neg b1_ne, ql, mkN_t (show P d = true by show (decide _ && tb (emp n (τ.2 0 12)) d) = true; rw [y, decide_eq_true q]; rfl)]
    · rw [if_neg q, mkN_f (show P d = false by show (decide (wv n (τ.2 0 12) ws d = nI (wl n (τ.2 0 12) ws c)) && _) = false; rw [decide_eq_false q]; rfl)]
  have go : ∀ m f, m ≤ n * n * n → m ≤ f → fX9_findParts_c34 0 rec10 f v1 v3 (nI c) (mkN P 0) (nI 0) τ = fX9_findParts_c34 0 rec10 (f - m) v1 v3 (nI c) (mkN P m) (nI m) τ := by
    intro m
    induction m with
    | zero => intro f _ _; rfl
    | succ m ih =>
      intro f h1 h2
      rw [ih f (by omega) (by omega)]
      obtain ⟨g, hg⟩ : ∃ g, f - m = g + 1 := ⟨f - m - 1, by omega⟩
      rw [hg, st g m (by omega), show f - (m + 1) = g by omega]
  have e := go (n * n * n) q_FU (Nat.le_refl _) (by show _ ≤ 400; omega)
  have e' : fX9_findParts_c34 0 rec10 q_FU v1 v3 (nI c) 0 0 τ = _ := e
  rw [e', eP, show q_FU - n * n * n = (399 - n * n * n) + 1 by show 400 - n * n * n = _; omega]
  rfl
theorem M_findParts {τ : q_M} {n ws : Nat} (h : MN τ n) (W : WY τ n (τ.2 0 12) ws) (hs : srv n (τ.2 0 12) ws = true) : ∃ τ', ag (fun c _ => c ≠ 18) τ τ' ∧ τ'.1 = τ.1 ∧ (∀ j, j < tot n (τ.2 0 12) ws (emp n (τ.2 0 12)) → τ'.2 18 j = plP n (τ.2 0 12) ws (lwi (sqP n (τ.2 0 12) ws j))) ∧ tot n (τ.2 0 12) ws (emp n (τ.2 0 12)) ≤ 64 ∧ fX9_findParts 0 τ = some (nI (tot n (τ.2 0 12) ws (emp n (τ.2 0 12))), τ') := by
  have hn := h.1
  have h64 := hn.cube
  have key : ∀ d c k (τ1 : q_M) f, c + d = n * n * n → d < f → k ≤ c → ag (fun e _ => e ≠ 18) τ τ1 → τ1.1 = τ.1 → (∀ j, j < c → tb (sqP n (τ.2 0 12) ws k) j = false) → k + tot n (τ.2 0 12) ws (sqP n (τ.2 0 12) ws k) = tot n (τ.2 0 12) ws (emp n (τ.2 0 12)) → (∀ j, j < k → τ1.2 18 j = plP n (τ.2 0 12) ws (lwi (sqP n (τ.2 0 12) ws j))) → ∃ τ', ag (fun c _ => c ≠ 18) τ τ' ∧ τ'.1 = τ.1 ∧ (∀ j, j < tot n (τ.2 0 12) ws (emp n (τ.2 0 12)) → τ'.2 18 j = plP n (τ.2 0 12) ws (lwi (sqP n (τ.2 0 12) ws j))) ∧ tot n (τ.2 0 12) ws (emp n (τ.2 0 12)) ≤ 64 ∧ fX9_findParts_c10 0 f (sqP n (τ.2 0 12) ws k) (nI k) (nI c) τ1 = some (nI (tot n (τ.2 0 12) ws (emp n (τ.2 0 12))), τ') := by
    intro d
    induction d with
    | zero =>
      intro c k τ1 f h1 h2 hk a1 a2 lo ht hf
      obtain ⟨f, rfl⟩ : ∃ z, f = z + 1 := ⟨f - 1, by omega⟩
      have hz : sqP n (τ.2 0 12) ws k = 0 := sbs_eq (fun e he => by
        rw [lo e (by have := ((tb_emp hn).mp ((Gd_sq hn hs k).1 e he)).1; omega)] at he; cases he) (fun e he => by rw [tb_0] at he; cases he)
      rw [hz, tot_0, Nat.add_zero] at ht
      have N1 : MN τ1 n := ⟨hn, by rw [a2]; exact h.2⟩
      refine ⟨τ1, a1, a2, by rw [← ht]; exact hf, by omega, ?_⟩
      show fX9_findParts_c10b 0 (fX9_findParts_c10 0 f) _ (nI k) (nI c) τ1 = _
      unfold fX9_findParts_c10b
      rw [M_many N1, bs, if_pos (nI_le (by omega) (by omega)), ht]
    | succ d ih =>
      intro c k τ1 f h1 h2 hk a1 a2 lo ht hf
      obtain ⟨f, rfl⟩ : ∃ z, f = z + 1 := ⟨f - 1, by omega⟩
      have N1 : MN τ1 n := ⟨hn, by rw [a2]; exact h.2⟩
      have e12 : τ1.2 0 12 = τ.2 0 12 := (a1 0 12 (by show (0 : Nat) ≠ 18; decide)).2
      have W1 : WY τ1 n (τ1.2 0 12) ws := fun e he => by rw [a2, e12]; exact W e he
      have un : fX9_findParts_c10 0 (f + 1) (sqP n (τ.2 0 12) ws k) (nI k) (nI c) τ1 = fX9_findParts_c10b 0 (fX9_findParts_c10 0 f) (sqP n (τ.2 0 12) ws k) (nI k) (nI c) τ1 := rfl
      rw [un]
      cases q : tb (sqP n (τ.2 0 12) ws k) c with
      | false =>
        obtain ⟨τ', r⟩ := ih (c + 1) k τ1 f (by omega) (by omega) (by omega) a1 a2 (fun j hj => by
          rcases Nat.lt_or_ge j c with z | z
          · exact lo j z
          · rw [show j = c by omega]; exact q) ht hf
        refine ⟨τ', r.1, r.2.1, r.2.2.1, r.2.2.2.1, ?_⟩
        unfold fX9_findParts_c10b
        rw [M_many N1, bs, if_neg (nI_ge (show c < n * n * n by omega) (by omega)), M_hasF (by omega) q, bs, if_pos rfl, nI_1]
        exact r.2.2.2.2
      | true =>
        have hne : sqP n (τ.2 0 12) ws k ≠ 0 := fun z => by rw [z, tb_0] at q; cases q
        have c64 := tb_lt q
        have hG := Gd_sq hn hs k
        have hlw : lwi (sqP n (τ.2 0 12) ws k) = c := fI_go q lo 64 c64
        have hcE := hG.1 c q
        obtain ⟨w1, w2, w3⟩ := wl_s hn hs hcE
        obtain ⟨s1, s2, s3⟩ := step_G hn hs hne hG
        have eN : nxt n (τ.2 0 12) ws (sqP n (τ.2 0 12) ws k) = dif (sqP n (τ.2 0 12) ws k) (plP n (τ.2 0 12) ws c) := by
          show (if sqP n (τ.2 0 12) ws k = 0 then 0 else dif (sqP n (τ.2 0 12) ws k) (plP n (τ.2 0 12) ws (lwi (sqP n (τ.2 0 12) ws k)))) = _
          rw [if_neg hne, hlw]
        let τ2 : q_M := q_L τ1 18 k (plP n (τ.2 0 12) ws c)
        obtain ⟨τ', r⟩ := ih (c + 1) (k + 1) τ2 f (by omega) (by omega) (by omega) (ag_tr a1 (ag_L (fun z => z rfl))) a2 (fun j hj => by
          show tb (nxt n (τ.2 0 12) ws (sqP n (τ.2 0 12) ws k)) j = false
          rw [eN]
          cases z : tb (dif (sqP n (τ.2 0 12) ws k) (plP n (τ.2 0 12) ws c)) j with
          | false => rfl
          | true =>
            obtain ⟨z1, z2⟩ := tb_dif.mp z
            rcases Nat.lt_or_ge j c with y | y
            · rw [lo j y] at z1; cases z1
            · rw [show j = c by omega, show tb (plP n (τ.2 0 12) ws c) c = true from part_up n _ (bit c) c ((tb_b c64).mpr rfl)] at z2; cases z2) (by
          show k + 1 + tot n (τ.2 0 12) ws (nxt n (τ.2 0 12) ws (sqP n (τ.2 0 12) ws k)) = _
          omega) (fun j hj => by
          show (q_L τ1 18 k (plP n (τ.2 0 12) ws c)).2 18 j = _
          by_cases z : j = k
          · subst z
            rw [L_at, hlw]
          · rw [L_of (fun y => z y.2)]; exact hf j (by omega))
        refine ⟨τ', r.1, r.2.1, r.2.2.1, r.2.2.2.1, ?_⟩
        unfold fX9_findParts_c10b
        rw [M_many N1, bs, if_neg (nI_ge (show c < n * n * n by omega) (by omega)), M_hasT c64 q, bs, if_neg b1_ne, M_alike N1 W1 (by rw [e12]; exact hs) (by rw [e12]; exact hcE)]
        unfold fX9_findParts_c34b
        rw [M_many N1, bs, if_pos (nI_le (Nat.le_refl _) (by omega)), e12, M_hang N1 (inB_own hn) w3, bs, gd (show k < 64 by omega) (by decide), ql, gd (show k < 64 by omega) (by decide), ql, nI_clamp (by omega), L_at, nI_1, nI_1]
        have r5 := r.2.2.2.2
        rw [show sqP n (τ.2 0 12) ws (k + 1) = dif (sqP n (τ.2 0 12) ws k) (plP n (τ.2 0 12) ws c) from eN] at r5
        exact r5
  unfold fX9_findParts
  rw [M_empty h, bs]
  exact key (n * n * n) 0 0 τ q_FU (by omega) (by show _ < 400; omega) (Nat.le_refl _) (ag_rf _ _) rfl (fun j hj => by omega) (by rw [Nat.zero_add]; rfl) (fun j hj => by omega)
theorem op_parted : Op_parted RR := by
  intro σ τ N x y h
  have h0 := h
  obtain ⟨K, A, n, p, o, t, hR⟩ := h
  obtain ⟨h1, h2, h3, h4, _⟩ := hR.2.1
  have hN : MN τ n := ⟨h1.1, h2⟩
  have B : Blk σ 2 n := h1
  have hn := h1.1
  unfold fX8_parted fX9_parted
  rw [X8_isWaySet, bs, M_in63, bs, X_bad, bs]
  rcases isI_c x (p := 64) (by decide) with q | ⟨ws, hw, rfl⟩
  · rw [q, b1_f, if_pos rfl, if_pos rfl, M_bad, bs]
    exact ⟨_, _, _, rfl, rfl, RR_rf h0 (by decide)⟩
  rw [isI_y hw (by decide), b1_t, if_neg b1_ne, if_neg b1_ne, M_in1, bs]
  rcases isI_c y (p := 2) (by decide) with q | ⟨v, hv, rfl⟩
  · rw [isI_out2 (e := 1) (p := 1) rfl (by decide) q, q, b1_f, if_pos rfl, M_bad, bs]
    exact ⟨_, _, _, rfl, rfl, RR_rf h0 (by decide)⟩
  rw [if_neg (nI_pos (show v < 2 ^ 31 by omega)), if_pos (show nI v ≤ 1 from nI_le (b := 1) (by omega) (by decide)), isI_y hv (by decide), b1_t, if_neg b1_ne]
  obtain ⟨σ1, L, aX, e⟩ := X8_lookF B h4 h3
  obtain ⟨τ1, F, N1, aM, e'⟩ := M_find (x := τ.2 0 12) hN
  rw [e, bs, X1_suffices L hw, bs, e', bs, M_doServe N1 F hw, bs]
  cases q : srv n (τ.2 0 12) ws with
  | false =>
    rw [b1_f, if_pos rfl, if_pos rfl, X_stk, bs, M_stk, bs]
    exact ⟨_, _, _, rfl, rfl, RR_rf (RR_sc h0 aX aM) (by decide)⟩
  | true =>
    obtain ⟨σ3, W3, L3, a3, _, c3⟩ := X1_share hn L hw
    obtain ⟨τ3, Y3, F3, N3, m3, e32, d3⟩ := M_findWays N1 F hw
    have bX : ag sX1 σ σ3 := ag_tr aX (ag27 a3)
    have bM : ag sM1 τ τ3 := ag_tr aM (ag17 m3)
    have B3 := blk_sc B bX
    have f3 : τ3.2 0 12 = τ.2 0 12 := fig_M bM
    rw [b1_t, if_neg b1_ne, if_neg b1_ne, c3, bs, d3, bs]
    by_cases z : nI v = 0
    · obtain ⟨τ4, g1, g2, g3, g4, g5⟩ := M_findParts (ws := ws) N3 (by rw [f3]; exact Y3) (by rw [f3]; exact q)
      rw [if_pos z, if_pos z, X1_owned B3 W3, bs, g5, bs, f3]
      exact ⟨_, _, _, rfl, rfl, RR_sc h0 bX (ag_tr bM (ag_sub g1 (fun c j hc => by
        unfold sM1 at hc
        show c ≠ 18
        omega)))⟩
    · have hR3 := Rel_sc hR bX bM
      rw [if_neg z, if_neg z, X1_seam B3 L3 W3 q, bs, M_seam (S := σ3.2 7) N3 Y3 (shw_M hR3.2.1), bs]
      exact ⟨_, _, _, rfl, rfl, RR_sc h0 bX bM⟩
/-- the part of the least cube, as the program gathers it -/
theorem X1_least {σ : q_M} {n ws : Nat} {x R : Int64} (B : Blk σ 2 n) (W : OW σ n x ws) (hs : srv n x ws = true) (hR : R ≠ 0) (hG : sbs R (emp n x)) : fX1_partOfLeast 2 R σ = some (plP n x ws (lwi R), σ) := by
  have hn := B.1
  obtain ⟨l1, l2, l3, l4⟩ := lwi_s hR
  obtain ⟨v1, v2, v3⟩ := wl_s hn hs (hG _ l2)
  have pw : ∀ w, w < 6 → part n (ownL n x ws w) (bit (lwi R) &&& ownL n x ws w) = if w = wl n x ws (lwi R) then plP n x ws (lwi R) else 0 := fun w hw => by
    by_cases q : w = wl n x ws (lwi R)
    · rw [if_pos q, q]
      unfold plP
      congr 1
      exact sbs_eq (fun c hc => by rw [tb_and, Bool.and_eq_true] at hc; exact hc.1) (fun c hc => by rw [tb_and, hc, (tb_b l1).mp hc, v3]; rfl)
    · rw [if_neg q]
      have : bit (lwi R) &&& ownL n x ws w = 0 := (bit_and0 l1).mpr (own_dis hn v1 hw (fun z => q z.symm) v3)
      rw [this, part_0 hn]
  unfold fX1_partOfLeast
  have key := lp_run (fun f (i : Nat) => fX1_partOfLeast_c6 2 R f (if wl n x ws (lwi R) < i then plP n x ws (lwi R) else 0) (nI i) σ) id 6 (some (plP n x ws (lwi R), σ)) ?_ ?_ q_FU (by decide)
  · exact key
  · intro f i hi
    have hi' : i < 6 := hi
    show fX1_partOfLeast_c6b 2 R (fX1_partOfLeast_c6 2 R f) (if wl n x ws (lwi R) < i then plP n x ws (lwi R) else 0) (nI i) σ = fX1_partOfLeast_c6 2 R f (if wl n x ws (lwi R) < i + 1 then plP n x ws (lwi R) else 0) (nI (i + 1)) σ
    unfold fX1_partOfLeast_c6b
    rw [if_neg (show ¬ (6 : Int32) ≤ nI i from nI_ge (a := i) (b := 6) hi' (by decide)), gd hi' (by decide), nI_clamp (by omega), W i hi', l4, X0_partG B (inB_own hn), bs, nI_1, pw i hi']
    by_cases q : i = wl n x ws (lwi R)
    · rw [if_pos q, if_neg (by omega), if_pos (by omega), zero_or]
    · rw [if_neg q, or0]
      by_cases z : wl n x ws (lwi R) < i
      · rw [if_pos z, if_pos (by omega)]
      · rw [if_neg z, if_neg (by omega)]
  · intro f
    show fX1_partOfLeast_c6b 2 R (fX1_partOfLeast_c6 2 R f) (if wl n x ws (lwi R) < 6 then plP n x ws (lwi R) else 0) (nI 6) σ = _
    unfold fX1_partOfLeast_c6b
    rw [if_pos (show (6 : Int32) ≤ nI 6 by decide), if_pos v1]
theorem X1_lay {σ : q_M} {n ws : Nat} {x : Int64} (B : Blk σ 2 n) (L : LK σ n x) (W : OW σ n x ws) (hs : srv n x ws = true) (hT : tot n x ws (emp n x) ≤ 8) : ∃ σ', ag (fun c j => ¬ (c = 6 ∨ (c = 1 ∧ (j = 2 ∨ j = 3)))) σ σ' ∧ σ'.1 1 2 = nI (tot n x ws (emp n x)) ∧ σ'.1 1 3 = 0 ∧ (∀ j, j < tot n x ws (emp n x) → σ'.2 6 j = plP n x ws (lwi (sqP n x ws j))) ∧ fX1_layPieces 1 σ = some σ' := by
  have hn := B.1
  have key : ∀ d k (σ1 : q_M) f, k + d = 8 → d < f → ag (fun c j => ¬ (c = 6 ∨ (c = 1 ∧ (j = 2 ∨ j = 3)))) σ σ1 → σ1.1 1 2 = nI k → σ1.1 1 3 = 0 → (∀ j, j < k → σ1.2 6 j = plP n x ws (lwi (sqP n x ws j))) → k + tot n x ws (sqP n x ws k) = tot n x ws (emp n x) → ∃ σ', ag (fun c j => ¬ (c = 6 ∨ (c = 1 ∧ (j = 2 ∨ j = 3)))) σ σ' ∧ σ'.1 1 2 = nI (tot n x ws (emp n x)) ∧ σ'.1 1 3 = 0 ∧ (∀ j, j < tot n x ws (emp n x) → σ'.2 6 j = plP n x ws (lwi (sqP n x ws j))) ∧ fX1_layPieces_c12 1 f (sqP n x ws k) (nI k) σ1 = some σ' := by
    intro d
    induction d with
    | zero =>
      intro k σ1 f h1 h2 a1 e2 e3 hf ht
      obtain ⟨f, rfl⟩ : ∃ z, f = z + 1 := ⟨f - 1, by omega⟩
      have hk : k = tot n x ws (emp n x) := by omega
      refine ⟨σ1, a1, by rw [e2, hk], e3, by rw [← hk]; exact hf, ?_⟩
      show fX1_layPieces_c12b 1 (fX1_layPieces_c12 1 f) (sqP n x ws k) (nI k) σ1 = _
      unfold fX1_layPieces_c12b
      rw [if_pos (show (8 : Int32) ≤ nI k by rw [show k = 8 by omega]; decide)]
    | succ d ih =>
      intro k σ1 f h1 h2 a1 e2 e3 hf ht
      obtain ⟨f, rfl⟩ : ∃ z, f = z + 1 := ⟨f - 1, by omega⟩
      have un : fX1_layPieces_c12 1 (f + 1) (sqP n x ws k) (nI k) σ1 = fX1_layPieces_c12b 1 (fX1_layPieces_c12 1 f) (sqP n x ws k) (nI k) σ1 := rfl
      rw [un]
      by_cases q : sqP n x ws k = 0
      · rw [q, tot_0, Nat.add_zero] at ht
        refine ⟨σ1, a1, by rw [e2, ht], e3, by rw [← ht]; exact hf, ?_⟩
        unfold fX1_layPieces_c12b
        rw [if_neg (show ¬ (8 : Int32) ≤ nI k from nI_ge (a := k) (b := 8) (by omega) (by decide)), if_pos q]
      · have hG := Gd_sq hn hs k
        obtain ⟨s1, s2, s3⟩ := step_G hn hs q hG
        have k8 : k < 8 := by omega
        have B1 : Blk σ1 2 n := Blk_fr B (fun c j hc => a1 c j (by
          have hc' : 2 ≤ c ∧ c ≤ 2 + 3 := hc
          show ¬ (c = 6 ∨ (c = 1 ∧ (j = 2 ∨ j = 3)))
          omega))
        have W1 : OW σ1 n x ws := fun w hw => by rw [(a1 27 w (by show ¬ (27 = 6 ∨ (27 = 1 ∧ (w = 2 ∨ w = 3))); omega)).2]; exact W w hw
        have eN : sqP n x ws (k + 1) = dif (sqP n x ws k) (plP n x ws (lwi (sqP n x ws k))) := by
          show nxt n x ws (sqP n x ws k) = _
          exact if_neg q
        let σ2 : q_M := q_I (q_L σ1 6 k (plP n x ws (lwi (sqP n x ws k)))) 1 2 (nI (k + 1))
        obtain ⟨σ', r⟩ := ih (k + 1) σ2 f (by omega) (by omega) (ag_tr a1 (ag_tr (ag_L (fun z => z (by omega))) (ag_I (fun z => z (by omega))))) I_at (by
          show (q_I (q_L σ1 6 k (plP n x ws (lwi (sqP n x ws k)))) 1 2 (nI (k + 1))).1 1 3 = 0
          rw [I_of (by omega)]; exact e3) (fun j hj => by
          show (q_L σ1 6 k (plP n x ws (lwi (sqP n x ws k)))).2 6 j = _
          by_cases z : j = k
          · subst z; exact L_at
          · rw [L_of (fun y => z y.2)]; exact hf j (by omega)) (by
          show k + 1 + tot n x ws (nxt n x ws (sqP n x ws k)) = _
          omega)
        refine ⟨σ', r.1, r.2.1, r.2.2.1, r.2.2.2.1, ?_⟩
        unfold fX1_layPieces_c12b
        rw [if_neg (show ¬ (8 : Int32) ≤ nI k from nI_ge (a := k) (b := 8) k8 (by decide)), if_neg q, show fX1_partOfLeast (1 + 1) (sqP n x ws k) σ1 = _ from X1_least B1 W1 hs q hG.1, bs]
        unfold fX2_addPiece
        rw [e2, if_neg (show ¬ (8 : Int32) ≤ nI k from nI_ge (a := k) (b := 8) k8 (by decide)), gd k8 (by decide), ql, ql, bs, ql, nI_clamp (by omega), L_1, e2, nI_1]
        have r5 := r.2.2.2.2
        rw [eN] at r5
        exact r5
  unfold fX1_layPieces fX2_dropPieces
  rw [ql, ql, bs]
  show ∃ σ', _ ∧ _ ∧ _ ∧ _ ∧ fX1_layPieces_c12 1 q_FU (σ.2 25 0) 0 (q_I (q_I σ 1 2 0) 1 3 0) = some σ'
  rw [L.1]
  exact key 8 0 (q_I (q_I σ 1 2 0) 1 3 0) q_FU (by omega) (by decide) (ag_tr (ag_I (fun z => z (by omega))) (ag_I (fun z => z (by omega)))) (by rw [I_of (by omega), I_at]; rfl) I_at (fun j hj => by omega) (by rw [Nat.zero_add]; rfl)
theorem M_lay {τ : q_M} {p1 : Int32} {T : Nat} (hT : T ≤ 8) : ∃ τ', ag (fun c j => ¬ (c = 11 ∨ (c = 0 ∧ (j = 13 ∨ j = 15)))) τ τ' ∧ τ'.1 0 13 = nI T ∧ τ'.1 0 15 = 0 ∧ (∀ j, j < T → τ'.2 11 j = τ.2 18 j) ∧ fX9_make_c67 0 p1 q_FU (nI T) 0 τ = some (nI T, τ') := by
  have key := lp_ex (fun f (u : Nat × q_M) => fX9_make_c67 0 p1 f (nI T) (nI u.1) u.2) (fun m u => u.1 = m ∧ ag (fun c _ => c ≠ 11) τ u.2 ∧ u.2.1 = τ.1 ∧ ∀ j, j < m → u.2.2 11 j = τ.2 18 j) T (fun u => some (nI T, q_I (q_I u.2 0 13 (nI T)) 0 15 0)) ?_ ?_ q_FU (0, τ) (by show _ < 400; omega) ⟨rfl, ag_rf _ _, rfl, fun j hj => by omega⟩
  · obtain ⟨⟨_, τ1⟩, ⟨_, a1, a2, a3⟩, a4⟩ := key
    have a1' : ag (fun c _ => c ≠ 11) τ τ1 := a1
    refine ⟨q_I (q_I τ1 0 13 (nI T)) 0 15 0, ag_tr (ag_sub a1' (fun c j hc => fun w => hc (Or.inl w))) (ag_tr (ag_I (fun z => z (by omega))) (ag_I (fun z => z (by omega)))), ?_, I_at, a3, a4⟩
    rw [I_of (by omega), I_at]
  · rintro f m ⟨u, τ2⟩ hm ⟨rfl, g1, g2, g3⟩
    have hu : u < T := hm
    have g1' : ag (fun c _ => c ≠ 11) τ τ2 := g1
    have e18 : τ2.2 18 u = τ.2 18 u := (g1' 18 u (by show (18 : Nat) ≠ 11; decide)).2
    refine ⟨(u + 1, q_L τ2 11 u (τ.2 18 u)), ⟨rfl, ag_tr g1 (ag_L (fun w => w rfl)), g2, fun j hj => ?_⟩, ?_⟩
    · show (q_L τ2 11 u (τ.2 18 u)).2 11 j = _
      by_cases q : j = u
      · subst q; exact L_at
      · rw [L_of (fun w => q w.2)]; exact g3 j (by omega)
    · show fX9_make_c67b 0 p1 (fX9_make_c67 0 p1 f) (nI T) (nI u) τ2 = _
      unfold fX9_make_c67b
      rw [if_neg (nI_ge hu (by omega)), gd (show u < 64 by omega) (by decide), gd (show u < 8 by omega) (by decide), ql, nI_clamp (by omega), show τ2.2 (0 + 18) u = τ.2 18 u from e18, nI_1]
  · rintro f ⟨u, τ2⟩ ⟨hu, _⟩
    have hu' : u = T := hu
    subst hu'
    show fX9_make_c67b 0 p1 (fX9_make_c67 0 p1 f) (nI u) (nI u) τ2 = _
    unfold fX9_make_c67b
    rw [if_pos (nI_le (Nat.le_refl _) (by omega)), ql, ql]
theorem op_make : Op_make RR := by
  intro σ τ N x h
  have h0 := h
  obtain ⟨K, A, n, p, o, t, hR⟩ := h
  obtain ⟨h1, h2, h3, h4, _⟩ := hR.2.1
  have hN : MN τ n := ⟨h1.1, h2⟩
  have B : Blk σ 2 n := h1
  have hn := h1.1
  unfold fX8_make fX9_make
  rw [X8_isWaySet, bs, M_in63, bs]
  rcases isI_c x (p := 64) (by decide) with q | ⟨ws, hw, rfl⟩
  · rw [q, b1_f, if_pos rfl, if_pos rfl, X_bad, bs, M_bad, bs]
    exact ⟨_, _, _, rfl, rfl, RR_rf h0 (by decide)⟩
  rw [isI_y hw (by decide), b1_t, if_neg b1_ne, if_neg b1_ne]
  obtain ⟨σ1, L, aX, e⟩ := X8_lookF B h4 h3
  obtain ⟨τ1, F, N1, aM, e'⟩ := M_find (x := τ.2 0 12) hN
  rw [e, bs, X1_suffices L hw, bs, e', bs, M_doServe N1 F hw, bs]
  cases q : srv n (τ.2 0 12) ws with
  | false =>
    rw [b1_f, if_pos rfl, if_pos rfl, X_stk, bs, M_stk, bs]
    exact ⟨_, _, _, rfl, rfl, RR_rf (RR_sc h0 aX aM) (by decide)⟩
  | true =>
    obtain ⟨σ3, W3, L3, a3, _, c3⟩ := X1_share hn L hw
    obtain ⟨τ3, Y3, F3, N3, m3, e32, d3⟩ := M_findWays N1 F hw
    have bX : ag sX1 σ σ3 := ag_tr aX (ag27 a3)
    have bM : ag sM1 τ τ3 := ag_tr aM (ag17 m3)
    have B3 := blk_sc B bX
    have f3 : τ3.2 0 12 = τ.2 0 12 := fig_M bM
    obtain ⟨τ4, g1, g2, g3, g4, g5⟩ := M_findParts (ws := ws) N3 (by rw [f3]; exact Y3) (by rw [f3]; exact q)
    rw [f3] at g3 g4 g5
    have bM4 : ag sM1 τ τ4 := ag_tr bM (ag_sub g1 (fun c j hc => by
      unfold sM1 at hc
      show c ≠ 18
      omega))
    have hR4 := Rel_sc hR bX bM4
    rw [b1_t, if_neg b1_ne, if_neg b1_ne, c3, bs, d3, bs, X1_owned B3 W3, bs, g5, bs]
    by_cases z : tot n (τ.2 0 12) ws (emp n (τ.2 0 12)) ≤ 8
    · rw [if_pos (show nI (tot n (τ.2 0 12) ws (emp n (τ.2 0 12))) ≤ 8 from nI_le (b := 8) z (by decide)), if_pos (show nI (tot n (τ.2 0 12) ws (emp n (τ.2 0 12))) ≤ 8 from nI_le (b := 8) z (by decide))]
      obtain ⟨σ5, u1, u2, u3, u4, u5⟩ := X1_lay B3 L3 W3 q z
      obtain ⟨τ5, v1, v2, v3, v4, v5⟩ := M_lay (τ := τ4) (p1 := nI ws) z
      rw [u5, bs, v5, u2]
      refine ⟨_, _, _, rfl, rfl, K, A, n, tot n (τ.2 0 12) ws (emp n (τ.2 0 12)), 0, t, Rel_mo hR4 (ag_sub u1 (fun c j hc => ?_)) (ag_sub v1 (fun c j hc => ?_)) ?_⟩
      · have hc' := hc.2
        show ¬ (c = 6 ∨ (c = 1 ∧ (j = 2 ∨ j = 3)))
        omega
      · have hc' := hc.2
        show ¬ (c = 11 ∨ (c = 0 ∧ (j = 13 ∨ j = 15)))
        omega
      · obtain ⟨r1, r2, r3, r4, r5, r6, r7, r8, r9, r10, r11, ⟨a, b1', b2, b3, b4⟩, ⟨d, d1, d2, d3', d4⟩, r14, r15⟩ := hR4.2.1
        have X : ∀ c j, ¬ (c = 6 ∨ (c = 1 ∧ (j = 2 ∨ j = 3))) → σ5.1 c j = σ3.1 c j ∧ σ5.2 c j = σ3.2 c j := fun c j hc => u1 c j hc
        have M : ∀ c j, ¬ (c = 11 ∨ (c = 0 ∧ (j = 13 ∨ j = 15))) → τ5.1 c j = τ4.1 c j ∧ τ5.2 c j = τ4.2 c j := fun c j hc => v1 c j hc
        refine ⟨Blk_fr r1 (fun c j hc => X c j (by
            have hc' : 1 + 1 ≤ c ∧ c ≤ 1 + 1 + 3 := hc
            omega)), ?_, ?_, ?_, z, u2, v2, Nat.two_pow_pos _, u3, v3, ?_, ⟨a, b1', b2, ?_, ?_⟩, ⟨d, d1, d2, ?_, ?_⟩, ?_, ?_⟩
        · rw [(M 0 11 (by omega)).1]; exact r2
        · rw [(X 1 1 (by omega)).2, (M 0 12 (by omega)).2]; exact r3
        · rw [(M 0 12 (by omega)).2]; exact r4
        · intro i hi
          show σ5.2 6 i = τ5.2 11 i ∧ inB n (τ5.2 11 i)
          rw [u4 i hi, v4 i hi, g3 i hi]
          refine ⟨rfl, ?_⟩
          unfold plP
          intro c hc
          exact inB_own hn c (itr_in hn (x := bit (lwi (sqP n (τ.2 0 12) ws i))) (fun e he => by
            have hG := Gd_sq hn q i
            by_cases y : sqP n (τ.2 0 12) ws i = 0
            · exfalso
              have hlt : ∀ j, j ≤ i → j + tot n (τ.2 0 12) ws (sqP n (τ.2 0 12) ws j) = tot n (τ.2 0 12) ws (emp n (τ.2 0 12)) ∨ sqP n (τ.2 0 12) ws j = 0 ∧ tot n (τ.2 0 12) ws (emp n (τ.2 0 12)) ≤ j := by
                intro j
                induction j with
                | zero => intro _; left; rw [Nat.zero_add]; rfl
                | succ j ih =>
                  intro hj
                  rcases ih (by omega) with w | ⟨w1, w2⟩
                  · by_cases y0 : sqP n (τ.2 0 12) ws j = 0
                    · right
                      rw [y0, tot_0] at w
                      refine ⟨?_, by omega⟩
                      show nxt n (τ.2 0 12) ws (sqP n (τ.2 0 12) ws j) = 0
                      exact if_pos y0
                    · left
                      have := (step_G hn q y0 (Gd_sq hn q j)).2.1
                      show j + 1 + tot n (τ.2 0 12) ws (nxt n (τ.2 0 12) ws (sqP n (τ.2 0 12) ws j)) = _
                      omega
                  · right
                    refine ⟨?_, by omega⟩
                    show nxt n (τ.2 0 12) ws (sqP n (τ.2 0 12) ws j) = 0
                    exact if_pos w1
              rcases hlt i (Nat.le_refl _) with w | ⟨_, w⟩
              · rw [y, tot_0] at w; omega
              · omega
            · obtain ⟨l1, l2, _, _⟩ := lwi_s y
              obtain ⟨_, _, w3⟩ := wl_s hn q (hG.1 _ l2)
              rw [(tb_b l1).mp he]; exact w3) 64 c hc)
        · rw [(X 1 4 (by omega)).1]; exact b3
        · rw [(M 0 17 (by omega)).1]; exact b4
        · rw [(X 1 5 (by omega)).1]; exact d3'
        · rw [(M 0 18 (by omega)).1]; exact d4
        · intro i hi
          rw [(X (1 + 6) i (by omega)).2]; exact r14 i hi
        · intro c hc
          obtain ⟨v, w1, w2, w3⟩ := r15 c hc
          refine ⟨v, w1, ?_, fun i hi => ?_⟩
          · rw [(M (0 + 12) c (by omega)).1]; exact w2
          · rw [(X (1 + 6) i (by omega)).2]; exact w3 i hi
    · rw [if_neg (show ¬ nI (tot n (τ.2 0 12) ws (emp n (τ.2 0 12))) ≤ 8 from nI_ge (a := 8) (by omega) (by omega)), if_neg (show ¬ nI (tot n (τ.2 0 12) ws (emp n (τ.2 0 12))) ≤ 8 from nI_ge (a := 8) (by omega) (by omega)), X_ful, bs, M_ful, bs]
      exact ⟨_, _, _, rfl, rfl, RR_rf (RR_sc h0 bX bM4) (by decide)⟩
