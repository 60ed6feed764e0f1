/-! Operations: what shows, asking, feeding, status. -/
def smF (f : Nat → Nat) : Nat → Nat
  | 0 => 0
  | c + 1 => smF f c + f c
theorem smF_cg {f g : Nat → Nat} : ∀ {m : Nat}, (∀ c, c < m → f c = g c) → smF f m = smF g m
  | 0, _ => rfl
  | m + 1, h => by
    unfold smF
    rw [smF_cg (fun c hc => h c (by omega)), h m (by omega)]
theorem smF_add (f g : Nat → Nat) : ∀ m, smF f m + smF g m = smF (fun c => f c + g c) m
  | 0 => rfl
  | m + 1 => by
    have ih := smF_add f g m
    show smF f m + f m + (smF g m + g m) = smF (fun c => f c + g c) m + (f m + g m)
    omega
theorem smF_mul (a : Nat) (f : Nat → Nat) : ∀ m, a * smF f m = smF (fun c => a * f c) m
  | 0 => rfl
  | m + 1 => by
    have ih := smF_mul a f m
    show a * (smF f m + f m) = smF (fun c => a * f c) m + a * f m
    rw [Nat.mul_add, ih]
theorem ctN_sm (p : Nat → Bool) : ∀ m, ctN p m = smF (fun c => if p c then 1 else 0) m
  | 0 => rfl
  | m + 1 => by
    show ctN p m + _ = smF _ m + _
    rw [ctN_sm p m]
theorem smF_le {f : Nat → Nat} {b : Nat} : ∀ {m : Nat}, (∀ c, c < m → f c ≤ b) → smF f m ≤ b * m
  | 0, _ => Nat.zero_le _
  | m + 1, h => by
    have ih := smF_le (m := m) (fun c hc => h c (by omega))
    have := h m (by omega)
    show smF f m + f m ≤ b * (m + 1)
    rw [Nat.mul_add, Nat.mul_one]
    omega
/-- what one cube shows -/
def shv (S : Nat → Int64) (c : Nat) : Nat := (if tb (S 0) c then 1 else 0) + (if tb (S 1) c then 2 else 0) + (if tb (S 2) c then 4 else 0) + (if tb (S 3) c then 8 else 0)
def smS (S : Nat → Int64) (x : Int64) : Nat := smF (fun c => if tb x c then shv S c else 0) 64
theorem shv_v {S : Nat → Int64} {c v : Nat} (hv : v ≤ 9) (h : ∀ i, i < 4 → tb (S i) c = v.testBit i) : shv S c = v := by
  unfold shv
  rw [h 0 (by decide), h 1 (by decide), h 2 (by decide), h 3 (by decide)]
  exact (by decide +kernel : ∀ v, v < 10 → (if v.testBit 0 = true then 1 else 0) + (if v.testBit 1 = true then 2 else 0) + (if v.testBit 2 = true then 4 else 0) + (if v.testBit 3 = true then 8 else 0) = v) v (by omega)
theorem smS_sum (S : Nat → Int64) (x : Int64) : cnt (x &&& S 0) * 1 + cnt (x &&& S 1) * 2 + cnt (x &&& S 2) * 4 + cnt (x &&& S 3) * 8 = smS S x := by
  unfold cnt smS
  rw [ctN_sm, ctN_sm, ctN_sm, ctN_sm, Nat.mul_comm _ 1, Nat.mul_comm _ 2, Nat.mul_comm _ 4, Nat.mul_comm _ 8, smF_mul, smF_mul, smF_mul, smF_mul, smF_add, smF_add, smF_add]
  refine smF_cg fun c _ => ?_
  unfold shv
  rw [tb_and, tb_and, tb_and, tb_and]
  cases tb x c <;> cases tb (S 0) c <;> cases tb (S 1) c <;> cases tb (S 2) c <;> cases tb (S 3) c <;> rfl
theorem sl_tab : ∀ a, a < 65 → ∀ k, k < 4 → q_sl (nI a) (nI k) = nI (a * 2 ^ k) := by decide +kernel
theorem X2_sum {σ : q_M} {k : Nat} (x : Int64) : fX2_sumOfShows k x σ = some (nI (smS (σ.2 (k + 6)) x), σ) := by
  have stp : ∀ f i v, i < 4 → fX2_sumOfShows_c5 k x (f + 1) (nI v) (nI i) σ = fX2_sumOfShows_c5 k x f (nI (v + cnt (x &&& σ.2 (k + 6) i) * 2 ^ i)) (nI (i + 1)) σ := by
    intro f i v hi
    have := cnt_le (x &&& σ.2 (k + 6) i)
    show fX2_sumOfShows_c5b k x (fX2_sumOfShows_c5 k x f) (nI v) (nI i) σ = _
    unfold fX2_sumOfShows_c5b
    rw [if_neg (show ¬ (4 : Int32) ≤ nI i from nI_ge (a := i) (b := 4) hi (by decide)), gd hi (by decide), nI_clamp (by omega), J_bits, bs, sl_tab _ (by omega) i hi, nI_add, nI_1]
  have e0 := stp 399 0 0 (by decide)
  have e1 := stp 398 1 (0 + cnt (x &&& σ.2 (k + 6) 0) * 2 ^ 0) (by decide)
  have e2 := stp 397 2 (0 + cnt (x &&& σ.2 (k + 6) 0) * 2 ^ 0 + cnt (x &&& σ.2 (k + 6) 1) * 2 ^ 1) (by decide)
  have e3 := stp 396 3 (0 + cnt (x &&& σ.2 (k + 6) 0) * 2 ^ 0 + cnt (x &&& σ.2 (k + 6) 1) * 2 ^ 1 + cnt (x &&& σ.2 (k + 6) 2) * 2 ^ 2) (by decide)
  have e0' : fX2_sumOfShows k x σ = _ := e0
  rw [e0', e1, e2, e3, ← smS_sum, show 0 + cnt (x &&& σ.2 (k + 6) 0) * 2 ^ 0 + cnt (x &&& σ.2 (k + 6) 1) * 2 ^ 1 + cnt (x &&& σ.2 (k + 6) 2) * 2 ^ 2 + cnt (x &&& σ.2 (k + 6) 3) * 2 ^ 3 = cnt (x &&& σ.2 (k + 6) 0) * 1 + cnt (x &&& σ.2 (k + 6) 1) * 2 + cnt (x &&& σ.2 (k + 6) 2) * 4 + cnt (x &&& σ.2 (k + 6) 3) * 8 by omega]
  show fX2_sumOfShows_c5b k x (fX2_sumOfShows_c5 k x 395) _ (nI 4) σ = _
  unfold fX2_sumOfShows_c5b
  rw [if_pos (show (4 : Int32) ≤ nI 4 by decide)]
theorem smF_one {f : Nat → Nat} {c : Nat} : ∀ {m : Nat}, c < m → (∀ d, d < m → d ≠ c → f d = 0) → smF f m = f c
  | 0, h, _ => by omega
  | m + 1, h, hz => by
    show smF f m + f m = f c
    by_cases q : c = m
    · subst q
      have : smF f c = 0 := by
        have h0 : ∀ k, k ≤ c → smF f k = 0 := by
          intro k
          induction k with
          | zero => intro _; rfl
          | succ k ih =>
            intro hk
            show smF f k + f k = 0
            rw [ih (by omega), hz k (by omega) (by omega)]
        exact h0 c (Nat.le_refl _)
      omega
    · rw [smF_one (m := m) (by omega) (fun d hd => hz d (by omega)), hz m (by omega) (fun w => q w.symm)]
      rfl
theorem smS_bit {S : Nat → Int64} {c : Nat} (hc : c < 64) : smS S (bit c) = shv S c := by
  unfold smS
  rw [smF_one (c := c) hc (fun d _ hd => if_neg (fun w => hd ((tb_b hc).mp w)))]
  exact if_pos ((tb_b hc).mpr rfl)
theorem X2_shows {σ : q_M} {k c : Nat} (hc : c < 64) : fX2_showsOf k (nI c) σ = some (nI (shv (σ.2 (k + 6)) c), σ) := by
  unfold fX2_showsOf
  rw [show q_shl 1 (nI c) = bit c from rfl, X2_sum, bs, smS_bit hc]
theorem X2_put {σ : q_M} {k c v : Nat} (hc : c < 64) (hv : v ≤ 9) : ∃ σ', ag (fun a _ => a ≠ k + 6) σ σ' ∧ σ'.1 = σ.1 ∧ (∀ i, i < 4 → σ'.2 (k + 6) i = if v.testBit i then σ.2 (k + 6) i ||| bit c else dif (σ.2 (k + 6) i) (bit c)) ∧ fX2_putShows k (nI c) (nI v) σ = some σ' := by
  have key := lp_ex (fun f (u : Nat × q_M) => fX2_putShows_c7 k (nI c) (nI v) f (bit c) (nI u.1) u.2) (fun m u => u.1 = m ∧ ag (fun a _ => a ≠ k + 6) σ u.2 ∧ u.2.1 = σ.1 ∧ (∀ i, i < m → u.2.2 (k + 6) i = if v.testBit i then σ.2 (k + 6) i ||| bit c else dif (σ.2 (k + 6) i) (bit c)) ∧ ∀ i, m ≤ i → u.2.2 (k + 6) i = σ.2 (k + 6) i) 4 (fun u => some u.2) ?_ ?_ q_FU (0, σ) (by decide) ⟨rfl, ag_rf _ _, rfl, fun i hi => by omega, fun _ _ => rfl⟩
  · obtain ⟨⟨_, σ'⟩, ⟨_, a1, a2, a3, _⟩, a5⟩ := key
    exact ⟨σ', a1, a2, a3, a5⟩
  · rintro f m ⟨u, σ2⟩ hm ⟨rfl, g1, g2, g3, g4⟩
    have hu : u < 4 := hm
    have g3' : ∀ i, i < u → σ2.2 (k + 6) i = if v.testBit i then σ.2 (k + 6) i ||| bit c else dif (σ.2 (k + 6) i) (bit c) := g3
    have g4' : ∀ i, u ≤ i → σ2.2 (k + 6) i = σ.2 (k + 6) i := g4
    refine ⟨(u + 1, q_L σ2 (k + 6) u (if v.testBit u then σ.2 (k + 6) u ||| bit c else dif (σ.2 (k + 6) u) (bit c))), ⟨rfl, ag_tr g1 (ag_L (fun w => w rfl)), g2, fun i hi => ?_, fun i hi => ?_⟩, ?_⟩
    · show (q_L σ2 (k + 6) u _).2 (k + 6) i = _
      by_cases q : i = u
      · subst q; exact L_at
      · rw [L_of (fun w => q w.2)]; exact g3' i (by omega)
    · show (q_L σ2 (k + 6) u _).2 (k + 6) i = _
      have hi' : u + 1 ≤ i := hi
      rw [L_of (by omega)]; exact g4' i (by omega)
    · show fX2_putShows_c7b k (nI c) (nI v) (fX2_putShows_c7 k (nI c) (nI v) f) (bit c) (nI u) σ2 = fX2_putShows_c7 k (nI c) (nI v) f (bit c) (nI (u + 1)) (q_L σ2 (k + 6) u (if v.testBit u then σ.2 (k + 6) u ||| bit c else dif (σ.2 (k + 6) u) (bit c)))
      unfold fX2_putShows_c7b
      rw [if_neg (show ¬ (4 : Int32) ≤ nI u from nI_ge (a := u) (b := 4) hu (by decide)), off_b1 (show v < 256 by omega) (show u < 8 by omega), nI_1]
      cases v.testBit u with
      | false => rw [b1_f, if_pos rfl, gd hu (by decide), gd hu (by decide), ql, nI_clamp (by omega), g4' u (Nat.le_refl _), if_neg (by decide)]; rfl
      | true => rw [b1_t, if_neg b1_ne, gd hu (by decide), gd hu (by decide), ql, nI_clamp (by omega), g4' u (Nat.le_refl _), if_pos rfl]
  · rintro f ⟨u, σ2⟩ ⟨hu, _⟩
    have hu' : u = 4 := hu
    subst hu'
    show fX2_putShows_c7b k (nI c) (nI v) (fX2_putShows_c7 k (nI c) (nI v) f) (bit c) (nI 4) σ2 = _
    unfold fX2_putShows_c7b
    rw [if_pos (show (4 : Int32) ≤ nI 4 by decide)]
/-- what a cube shows, changed alike -/
theorem RM_shw {σ σ' τ : q_M} {k n p o c v : Nat} (h : RM σ k τ 0 n p o) (hc : c < n * n * n) (hv : v ≤ 9) (a1 : ag (fun a _ => a ≠ k + 6) σ σ') (a3 : ∀ i, i < 4 → σ'.2 (k + 6) i = if v.testBit i then σ.2 (k + 6) i ||| bit c else dif (σ.2 (k + 6) i) (bit c)) : RM σ' k (q_I τ 12 c (nI v)) 0 n p o := by
  obtain ⟨h1, h2, h3, h4, h5, h6, h7, h8, h9, h10, h11, ⟨u, u1, u2, u3, u4⟩, ⟨w, w1, w2, w3, w4⟩, h14, h15⟩ := h
  have h64 := h1.1.cube
  have A : ∀ a j, a ≠ k + 6 → σ'.1 a j = σ.1 a j ∧ σ'.2 a j = σ.2 a j := fun a j ha => a1 a j ha
  refine ⟨Blk_fr h1 (fun a j ha => A a j ?_), ?_, ?_, h4, h5, ?_, ?_, h8, ?_, ?_, ?_, ⟨u, u1, u2, ?_, ?_⟩, ⟨w, w1, w2, ?_, ?_⟩, ?_, ?_⟩
  · have ha' : k + 1 ≤ a ∧ a ≤ k + 1 + 3 := ha
    omega
  · rw [I_of (by omega)]; exact h2
  · rw [(A k 1 (by omega)).2]; exact h3
  · rw [(A k 2 (by omega)).1]; exact h6
  · rw [I_of (by omega)]; exact h7
  · rw [(A k 3 (by omega)).1]; exact h9
  · rw [I_of (by omega)]; exact h10
  · intro i hi
    rw [(A (k + 5) i (by omega)).2]
    exact h11 i hi
  · rw [(A k 4 (by omega)).1]; exact u3
  · rw [I_of (by omega)]; exact u4
  · rw [(A k 5 (by omega)).1]; exact w3
  · rw [I_of (by omega)]; exact w4
  · intro i hi
    rw [a3 i hi]
    cases v.testBit i with
    | true => exact inB_or (h14 i hi) (fun d hd => by rw [(tb_b (show c < 64 by omega)).mp hd]; exact hc)
    | false => exact sbs_in (dif_sbs _ _) (h14 i hi)
  · intro d hd
    by_cases q : d = c
    · subst q
      refine ⟨v, hv, I_at, fun i hi => ?_⟩
      rw [a3 i hi]
      cases v.testBit i with
      | true =>
        rw [if_pos rfl, tb_or, (tb_b (show d < 64 by omega)).mpr rfl, Bool.or_true]
      | false =>
        rw [if_neg (by decide)]
        cases z : tb (dif (σ.2 (k + 6) i) (bit d)) d with
        | false => rfl
        | true =>
          have := (tb_dif.mp z).2
          rw [(tb_b (show d < 64 by omega)).mpr rfl] at this; cases this
    · obtain ⟨e, e1, e2, e3⟩ := h15 d hd
      refine ⟨e, e1, by rw [I_of (fun z => q z.2)]; exact e2, fun i hi => ?_⟩
      rw [a3 i hi, ← e3 i hi]
      have nb : tb (bit c) d = false := by
        cases z : tb (bit c) d with
        | false => rfl
        | true => exact absurd ((tb_b (show c < 64 by omega)).mp z) q
      cases v.testBit i with
      | true => rw [if_pos rfl, tb_or, nb, Bool.or_false]
      | false =>
        rw [if_neg (by decide), Bool.eq_iff_iff, tb_dif]
        exact ⟨fun z => z.1, fun z => ⟨z, nb⟩⟩
/-- the numbers heavy and wear, changed alike -/
theorem RM_hvy {σ τ : q_M} {k n p o v : Nat} (h : RM σ k τ 0 n p o) (h1v : 1 ≤ v) (hv : v ≤ 64) : RM (q_I σ k 4 (nI v)) k (q_I τ 0 17 (nI v)) 0 n p o := by
  obtain ⟨h1, h2, h3, h4, h5, h6, h7, h8, h9, h10, h11, ⟨u, u1, u2, u3, u4⟩, ⟨w, w1, w2, w3, w4⟩, h14, h15⟩ := h
  refine ⟨Blk_fr h1 (ag_I (fun z => ?_)), ?_, h3, h4, h5, ?_, ?_, h8, ?_, ?_, h11, ⟨v, h1v, hv, I_at, I_at⟩, ⟨w, w1, w2, ?_, ?_⟩, h14, ?_⟩
  · have z' : k + 1 ≤ k ∧ k ≤ k + 1 + 3 := z
    omega
  · rw [I_of (by omega)]; exact h2
  · rw [I_of (by omega)]; exact h6
  · rw [I_of (by omega)]; exact h7
  · rw [I_of (by omega)]; exact h9
  · rw [I_of (by omega)]; exact h10
  · rw [I_of (by omega)]; exact w3
  · rw [I_of (by omega)]; exact w4
  · intro d hd
    obtain ⟨e, e1, e2, e3⟩ := h15 d hd
    exact ⟨e, e1, by rw [I_of (by omega)]; exact e2, e3⟩
theorem RM_wer {σ τ : q_M} {k n p o v : Nat} (h : RM σ k τ 0 n p o) (h1v : 1 ≤ v) (hv : v ≤ 999) : RM (q_I σ k 5 (nI v)) k (q_I τ 0 18 (nI v)) 0 n p o := by
  obtain ⟨h1, h2, h3, h4, h5, h6, h7, h8, h9, h10, h11, ⟨u, u1, u2, u3, u4⟩, ⟨w, w1, w2, w3, w4⟩, h14, h15⟩ := h
  refine ⟨Blk_fr h1 (ag_I (fun z => ?_)), ?_, h3, h4, h5, ?_, ?_, h8, ?_, ?_, h11, ⟨u, u1, u2, ?_, ?_⟩, ⟨v, h1v, hv, I_at, I_at⟩, h14, ?_⟩
  · have z' : k + 1 ≤ k ∧ k ≤ k + 1 + 3 := z
    omega
  · rw [I_of (by omega)]; exact h2
  · rw [I_of (by omega)]; exact h6
  · rw [I_of (by omega)]; exact h7
  · rw [I_of (by omega)]; exact h9
  · rw [I_of (by omega)]; exact h10
  · rw [I_of (by omega)]; exact u3
  · rw [I_of (by omega)]; exact u4
  · intro d hd
    obtain ⟨e, e1, e2, e3⟩ := h15 d hd
    exact ⟨e, e1, by rw [I_of (by omega)]; exact e2, e3⟩
/-- a number from 1 on, or not -/
theorem rng1 (x : Int32) {m : Nat} (hm : m < 2 ^ 31) : (∃ v, 1 ≤ v ∧ v ≤ m ∧ x = nI v) ∨ ((!decide (x < nI 1) && decide (x ≤ nI m)) = false ∧ ∀ {α : Type} {P Q : α}, (if x < 1 then P else if x ≤ nI m then Q else P) = P) := by
  by_cases q1 : x < 1
  · exact Or.inr ⟨by rw [decide_eq_true (show x < nI 1 from q1)]; rfl, by intro α P Q; rw [if_pos q1]⟩
  · by_cases q2 : x ≤ nI m
    · left
      obtain ⟨v, hv, rfl⟩ := nI_of (x := x) (fun u => q1 (by
        rw [Int32.lt_iff_toInt_lt] at u ⊢
        have e1 : (1 : Int32).toInt = 1 := by decide
        have e0 : (0 : Int32).toInt = 0 := by decide
        omega))
      refine ⟨v, ?_, (nI_leI hv hm).mp q2, rfl⟩
      rcases Nat.eq_zero_or_pos v with u | u
      · subst u; exact absurd (by decide) q1
      · exact u
    · exact Or.inr ⟨by rw [decide_eq_false q2, Bool.and_false], by intro α P Q; rw [if_neg q1, if_neg q2]⟩
theorem rng1_y {v m : Nat} (h1 : 1 ≤ v) (h2 : v ≤ m) (hm : m < 2 ^ 31) : (!decide (nI v < nI 1) && decide (nI v ≤ nI m)) = true := by
  rw [decide_eq_false (nI_nlt h1 (by omega)), decide_eq_true (nI_le h2 hm)]
  rfl
theorem op_ask : Op_ask RR := by
  intro σ τ N x y z h
  have h0 := h
  obtain ⟨K, A, n, p, o, t, hR⟩ := h
  have hm := hR.2.1
  obtain ⟨h1, h2, h3, h4, h5, h6, h7, h8, h9, h10, h11, ⟨u, u1, u2, u3, u4⟩, ⟨w, w1, w2, w3, w4⟩, h14, h15⟩ := hm
  have hN : MN τ n := ⟨h1.1, h2⟩
  have B : Blk σ 2 n := h1
  have h64 := h1.1.cube
  unfold fX8_ask fX9_ask
  rw [X_bad, bs]
  by_cases q0 : x = 0
  · rw [if_pos q0, if_pos q0, M_isCube hN, bs]
    unfold fX8_askShows
    rw [X_bad, bs, B.2.2.1]
    rcases isI_c y (p := n * n * n) (by omega) with q | ⟨c, hc, rfl⟩
    · have e : ∀ {α : Type} {P Q : α}, (if y < 0 then P else if nI (n * n * n) ≤ y then P else Q) = P := by
        intro α P Q
        rcases isI_f q with z | z
        · rw [if_pos z]
        · by_cases w : y < 0
          · rw [if_pos w]
          · rw [if_neg w, if_pos z]
      rw [e, bs, q, b1_f, if_pos rfl, M_bad, bs]
      exact ⟨_, _, _, rfl, rfl, RR_rf h0 (by decide)⟩
    · rw [if_neg (nI_pos (show c < 2 ^ 31 by omega)), if_neg (nI_ge hc (by omega)), isI_y hc (by omega), b1_t, if_neg b1_ne, M_in9, bs]
      rcases isI_c z (p := 10) (by decide) with q | ⟨v, hv, rfl⟩
      · rw [isI_out2 (e := 9) (p := 9) rfl (by decide) q, bs, q, b1_f, if_pos rfl, M_bad, bs]
        exact ⟨_, _, _, rfl, rfl, RR_rf h0 (by decide)⟩
      · obtain ⟨σ', a1, a2, a3, a4⟩ := X2_put (σ := σ) (k := 1) (c := c) (v := v) (by omega) (by omega)
        obtain ⟨s, s1, s2, s3⟩ := h15 c hc
        rw [if_neg (nI_pos (show v < 2 ^ 31 by omega)), if_pos (show nI v ≤ 9 from nI_le (b := 9) (by omega) (by decide)), isI_y hv (by decide), b1_t, if_neg b1_ne, X2_shows (show c < 64 by omega), bs, a4, bs, bs, gd (show c < 64 by omega) (by decide), ql, gd (show c < 64 by omega) (by decide), ql, nI_clamp (show c < 2 ^ 31 by omega), show τ.1 (0 + 12) c = nI s from s2, shv_v s1 (S := σ.2 (1 + 6)) s3]
        exact ⟨_, _, _, rfl, rfl, K, A, n, p, o, t, Rel_mo hR (ag_sub a1 (fun a e ha => fun w => ha.2 (by omega))) (ag_I (nM2 (by omega))) (RM_shw hR.2.1 hc (by omega) a1 a3)⟩
  rw [if_neg q0, if_neg q0]
  by_cases q1 : x = 1
  · rw [if_pos q1, if_pos q1, show (1 : Int64) = lN 1 from rfl, show (64 : Int64) = lN 64 from rfl, M_inG (by decide) (by decide), bs]
    unfold fX8_askHeavy
    rw [X_bad, bs]
    rcases rng1 z (m := 64) (by decide) with ⟨v, v1, v2, rfl⟩ | ⟨e1, e2⟩
    · rw [if_neg (show ¬ nI v < 1 from nI_nlt (b := 1) v1 (by omega)), if_pos (show nI v ≤ 64 from nI_le (b := 64) v2 (by decide)), rng1_y v1 v2 (by decide), b1_t, if_neg b1_ne, ql, ql, bs, u3, u4]
      exact ⟨_, _, _, rfl, rfl, K, A, n, p, o, t, Rel_mo hR (ag_I (nX (by omega))) (ag_I (nM (by omega))) (RM_hvy hR.2.1 v1 v2)⟩
    · rw [show ∀ {α : Type} {P Q : α}, (if z < 1 then P else if z ≤ 64 then Q else P) = P from e2, bs, e1, b1_f, if_pos rfl, M_bad, bs]
      exact ⟨_, _, _, rfl, rfl, RR_rf h0 (by decide)⟩
  rw [if_neg q1, if_neg q1]
  by_cases q2 : x = 2
  · rw [if_pos q2, if_pos q2, show (1 : Int64) = lN 1 from rfl, show (999 : Int64) = lN 999 from rfl, M_inG (by decide) (by decide), bs]
    unfold fX8_askWear
    rw [X_bad, bs]
    rcases rng1 z (m := 999) (by decide) with ⟨v, v1, v2, rfl⟩ | ⟨e1, e2⟩
    · rw [if_neg (show ¬ nI v < 1 from nI_nlt (b := 1) v1 (by omega)), if_pos (show nI v ≤ 999 from nI_le (b := 999) v2 (by decide)), rng1_y v1 v2 (by decide), b1_t, if_neg b1_ne, ql, ql, bs, w3, w4]
      exact ⟨_, _, _, rfl, rfl, K, A, n, p, o, t, Rel_mo hR (ag_I (nX (by omega))) (ag_I (nM (by omega))) (RM_wer hR.2.1 v1 v2)⟩
    · rw [show ∀ {α : Type} {P Q : α}, (if z < 1 then P else if z ≤ 999 then Q else P) = P from e2, bs, e1, b1_f, if_pos rfl, M_bad, bs]
      exact ⟨_, _, _, rfl, rfl, RR_rf h0 (by decide)⟩
  · rw [if_neg q2, if_neg q2, M_bad, bs]
    exact ⟨_, _, _, rfl, rfl, RR_rf h0 (by decide)⟩
/-- the tape, changed alike -/
theorem Rel_tp {σ σ' τ τ' : q_M} {N K A n p o t t' : Nat} (h : Rel σ τ N K A n p o t) (hX : ag (fun c j => sX1 c j ∧ ¬ (c = 23 ∨ c = 24)) σ σ') (hM : ag (fun c j => sM1 c j ∧ ¬ ((c = 0 ∧ j = 9) ∨ c = 9)) τ τ') (ht : RTp σ' τ' t') : Rel σ' τ' N K A n p o t' := by
  obtain ⟨h1, h2, ⟨m3, h3⟩, ⟨m4, h4⟩, h5, h6, h7, h8⟩ := h
  refine ⟨RSt_fr h1 (fun c j hc => hM c j ?_), RM_fr h2 (fun c j hc => hX c j ?_) (fun c j hc => hM c j ?_), ⟨m3, Blk_fr h3 (fun c j hc => hX c j ?_)⟩, ⟨m4, Blk_fr h4 (fun c j hc => hX c j ?_)⟩, RKp_fr h5 (fun c j hc => hX c j ?_) (fun hK => fun c j hc => hM c j ?_), RSh_fr h6 (fun c j hc => hX c j ?_) (fun c j hc => hM c j ?_), RRf_fr h7 (fun c j hc => hX c j ?_) (fun c j hc => hM c j ?_), ht⟩
  · have hc' : c % 29 = 0 ∧ (j = 19 ∨ j = 27) := hc
    unfold sM1
    omega
  · have hc' : 1 ≤ c ∧ c ≤ 1 + 6 := hc
    unfold sX1
    omega
  · have hc' : (c = 0 ∧ (j = 11 ∨ j = 12 ∨ j = 13 ∨ j = 15 ∨ j = 17 ∨ j = 18)) ∨ c = 0 + 11 ∨ c = 0 + 12 := hc
    unfold sM1
    omega
  · have hc' : 9 ≤ c ∧ c ≤ 9 + 3 := hc
    unfold sX1
    omega
  · have hc' : 16 ≤ c ∧ c ≤ 16 + 3 := hc
    unfold sX1
    omega
  · have hc' : (8 ≤ c ∧ c ≤ 14) ∨ (c = 0 ∧ j = 3) := hc
    unfold sX1
    omega
  · have hc' : (c = K ∧ (j = 11 ∨ j = 12 ∨ j = 13 ∨ j = 15 ∨ j = 17 ∨ j = 18)) ∨ c = K + 11 ∨ c = K + 12 := hc
    have := K29 h1 hK
    unfold sM1
    omega
  · have hc' : 31 ≤ c := hc
    unfold sX1
    omega
  · have hc' : c = 1 ∨ c = 2 ∨ c = 3 ∨ c = 6 ∨ c = 7 ∨ c = 8 ∨ (21 ≤ c ∧ c ≤ 28) := hc
    unfold sM1
    omega
  · have hc' : c = 28 := hc
    unfold sX1
    omega
  · have hc' : c = 10 := hc
    unfold sM1
    omega
theorem b255 : ∀ i, i < 32 → (255 : Int32).toBitVec.getLsbD i = decide (i < 8) := by decide +kernel
theorem su_bit (x y : Int32) {s : Nat} (hs : s < 32) (hy : (y.toUInt32 &&& Int32.toUInt32 31) = UInt32.ofNat s) (i : Nat) : (q_su x y).toBitVec.getLsbD i = x.toBitVec.getLsbD (s + i) := by
  unfold q_su
  rw [hy]
  have e : ((x.toUInt32 >>> UInt32.ofNat s).toInt32).toBitVec = x.toBitVec >>> s := by
    apply BitVec.eq_of_toNat_eq
    show (x.toUInt32 >>> UInt32.ofNat s).toNat = _
    have h1 : (UInt32.ofNat s).toNat = s := by
      show (BitVec.ofNat 32 s).toNat = s
      rw [BitVec.toNat_ofNat, Nat.mod_eq_of_lt (by omega)]
    rw [UInt32.toNat_shiftRight, h1, Nat.mod_eq_of_lt hs, BitVec.toNat_ushiftRight]
    rfl
  rw [e, BitVec.getLsbD_ushiftRight]
theorem sr_bit (x y : Int32) {s : Nat} (hy : ((y &&& 31).toBitVec.smod 32).toNat = s) {i : Nat} (hi : s + i < 32) : (q_sr x y).toBitVec.getLsbD i = x.toBitVec.getLsbD (s + i) := by
  unfold q_sr
  show (x.toBitVec.sshiftRight ((y &&& 31).toBitVec.smod 32).toNat).getLsbD i = _
  rw [hy, BitVec.getLsbD_sshiftRight, if_pos hi]
  simp
  omega
theorem su_sr (x : Int32) {k : Nat} (hk : k < 4) : q_su x (8 * nI k) &&& 255 = q_sr x (8 * nI k) &&& 255 := by
  apply Int32.toBitVec_inj.mp
  apply BitVec.eq_of_getLsbD_eq
  intro i hi
  rw [Int32.toBitVec_and, Int32.toBitVec_and, BitVec.getLsbD_and, BitVec.getLsbD_and, b255 i hi]
  by_cases q : i < 8
  · rw [su_bit x (8 * nI k) (s := 8 * k) (by omega) ((by decide +kernel : ∀ k, k < 4 → ((8 * nI k).toUInt32 &&& Int32.toUInt32 31) = UInt32.ofNat (8 * k)) k hk), sr_bit x (8 * nI k) (s := 8 * k) ((by decide +kernel : ∀ k, k < 4 → (((8 * nI k) &&& 31).toBitVec.smod 32).toNat = 8 * k) k hk) (by omega)]
  · rw [decide_eq_false q, Bool.and_false, Bool.and_false]
theorem op_feed : Op_feed RR := by
  intro σ τ N x y h
  have h0 := h
  obtain ⟨K, A, n, p, o, t, hR⟩ := h
  have ht := hR.2.2.2.2.2.2.2
  obtain ⟨t1, t2, t3, t4⟩ := ht
  unfold fX8_feed fX9_feed
  rw [X_bad, bs, show (1 : Int64) = lN 1 from rfl, show (4 : Int64) = lN 4 from rfl, M_inG (by decide) (by decide), bs]
  rcases rng1 y (m := 4) (by decide) with ⟨v, v1, v2, rfl⟩ | ⟨e1, e2⟩
  · rw [if_neg (show ¬ nI v < 1 from nI_nlt (b := 1) v1 (by omega)), if_pos (show nI v ≤ 4 from nI_le (b := 4) v2 (by decide)), rng1_y v1 v2 (by decide), b1_t, if_neg b1_ne, t2, t3, nI_add, show (250 : Int32) - nI t = nI (250 - t) from pk_sub (a := 250) t1]
    by_cases q : t + v ≤ 250
    · rw [if_pos (show nI (t + v) ≤ 250 from nI_le (b := 250) q (by decide)), if_pos (nI_le (show v ≤ 250 - t by omega) (by omega)), show nI v - 1 = nI (v - 1) from pk_sub (b := 1) v1]
      have key : ∀ e u (σ1 τ1 : q_M) f g, u + e = 250 + 0 → True → ∀ d, d ≤ 4 → d < f → d < g → ag (fun c j => sX1 c j ∧ ¬ (c = 23 ∨ c = 24)) σ σ1 → ag (fun c j => sM1 c j ∧ ¬ ((c = 0 ∧ j = 9) ∨ c = 9)) τ τ1 → ∀ s, s + d ≤ 250 → RTp σ1 τ1 s → ∃ (r : Int32) (σ' τ' : q_M), fX8_feed_c43 x (nI v) f (nI d - 1) σ1 = some (r, σ') ∧ fX9_feed_c42 0 x (nI v) g (nI d - 1) τ1 = some (r, τ') ∧ ag (fun c j => sX1 c j ∧ ¬ (c = 23 ∨ c = 24)) σ σ' ∧ ag (fun c j => sM1 c j ∧ ¬ ((c = 0 ∧ j = 9) ∨ c = 9)) τ τ' ∧ ∃ s', RTp σ' τ' s' := by
        intro _ _ σ1 τ1 f g _ _ d
        induction d generalizing σ1 τ1 f g with
        | zero =>
          intro _ hf hg aX aM s hs hT
          obtain ⟨f, rfl⟩ : ∃ z, f = z + 1 := ⟨f - 1, by omega⟩
          obtain ⟨g, rfl⟩ : ∃ z, g = z + 1 := ⟨g - 1, by omega⟩
          have hT' := hT
          obtain ⟨_, s2, s3, _⟩ := hT
          refine ⟨nI s, σ1, τ1, ?_, ?_, aX, aM, s, hT'⟩
          · show fX8_feed_c43b x (nI v) (fX8_feed_c43 x (nI v) f) (nI 0 - 1) σ1 = _
            unfold fX8_feed_c43b
            rw [if_pos (by decide), s2]
          · show fX9_feed_c42b 0 x (nI v) (fX9_feed_c42 0 x (nI v) g) (nI 0 - 1) τ1 = _
            unfold fX9_feed_c42b
            rw [if_pos (by decide), s3]
        | succ d ih =>
          intro hd hf hg aX aM s hs hT
          obtain ⟨f, rfl⟩ : ∃ z, f = z + 1 := ⟨f - 1, by omega⟩
          obtain ⟨g, rfl⟩ : ∃ z, g = z + 1 := ⟨g - 1, by omega⟩
          obtain ⟨s1, s2, s3, s4⟩ := hT
          obtain ⟨b, hb, eb⟩ := pk_andE (q_sr x (8 * nI d)) (m := 255) 8 (by decide)
          have ed : nI (d + 1) - 1 = nI d := nI_pred d
          have em : nI d + (-1) = nI d - 1 := (by decide +kernel : ∀ d, d < 5 → nI d + (-1) = nI d - 1) d (by omega)
          let σ2 : q_M := q_I (q_I σ1 24 s (nI b)) 23 0 (nI (s + 1))
          let τ2 : q_M := q_I (q_I τ1 0 9 (nI (s + 1))) 9 s (nI b)
          have hT2 : RTp σ2 τ2 (s + 1) := by
            refine ⟨by omega, I_at, ?_, fun i hi => ?_⟩
            · show (q_I (q_I τ1 0 9 (nI (s + 1))) 9 s (nI b)).1 0 9 = _
              rw [I_of (by omega), I_at]
            · show ∃ b', b' < 256 ∧ (q_I (q_I σ1 24 s (nI b)) 23 0 (nI (s + 1))).1 24 i = nI b' ∧ (q_I (q_I τ1 0 9 (nI (s + 1))) 9 s (nI b)).1 9 i = nI b'
              by_cases z : i = s
              · subst z
                exact ⟨b, hb, by rw [I_of (by omega), I_at], by rw [I_at]⟩
              · obtain ⟨b', c1, c2, c3⟩ := s4 i (by omega)
                exact ⟨b', c1, by rw [I_of (by omega), I_of (by omega)]; exact c2, by rw [I_of (by omega), I_of (by omega)]; exact c3⟩
          obtain ⟨r, σ', τ', r1, r2, r3⟩ := ih σ2 τ2 f g (by omega) (by omega) (by omega) (ag_tr aX (ag_tr (ag_I (fun z => z.2 (by omega))) (ag_I (fun z => z.2 (by omega))))) (ag_tr aM (ag_tr (ag_I (fun z => z.2 (by omega))) (ag_I (fun z => z.2 (by omega))))) (s + 1) (by omega) hT2
          refine ⟨r, σ', τ', ?_, ?_, r3⟩
          · show fX8_feed_c43b x (nI v) (fX8_feed_c43 x (nI v) f) (nI (d + 1) - 1) σ1 = _
            unfold fX8_feed_c43b fX7_add
            rw [ed, if_neg (nI_pos (show d < 2 ^ 31 by omega)), su_sr x (by omega), eb, s2, if_neg (show ¬ (250 : Int32) ≤ nI s from nI_ge (a := s) (b := 250) (by omega) (by decide)), gd (show s < 250 by omega) (by decide), ql, ql, bs, nI_clamp (by omega), I_of (show ¬ (23 = 24 ∧ 0 = s) by omega), s2, nI_1, em]
            exact r1
          · show fX9_feed_c42b 0 x (nI v) (fX9_feed_c42 0 x (nI v) g) (nI (d + 1) - 1) τ1 = _
            unfold fX9_feed_c42b
            rw [ed, if_neg (nI_pos (show d < 2 ^ 31 by omega)), eb, s3, ql, gd (show s < 250 by omega) (by decide), ql, nI_clamp (by omega), nI_1, em]
            exact r2
      obtain ⟨r, σ', τ', r1, r2, r3, r4, s', r5⟩ := key 250 0 σ τ q_FU q_FU rfl trivial v v2 (by show _ < 400; omega) (by show _ < 400; omega) (ag_rf _ _) (ag_rf _ _) t q hR.2.2.2.2.2.2.2
      have ev : nI (v - 1) = nI v - 1 := (pk_sub (b := 1) v1).symm
      rw [ev]
      exact ⟨r, σ', τ', r1, r2, K, A, n, p, o, s', Rel_tp hR r3 r4 r5⟩
    · rw [if_neg (show ¬ nI (t + v) ≤ 250 from nI_ge (a := 250) (by omega) (by omega)), if_neg (nI_ge (show 250 - t < v by omega) (by omega)), X_ful, bs, M_ful, bs]
      exact ⟨_, _, _, rfl, rfl, RR_rf h0 (by decide)⟩
  · rw [show ∀ {α : Type} {P Q : α}, (if y < 1 then P else if y ≤ 4 then Q else P) = P from e2, e1, b1_f, if_pos rfl, M_bad, bs]
    exact ⟨_, _, _, rfl, rfl, RR_rf h0 (by decide)⟩
