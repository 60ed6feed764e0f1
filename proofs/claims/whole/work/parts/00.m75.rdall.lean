/-! Reading: all statements, and the reading itself. -/
def frM2 : Nat → Nat → Prop := fun c j => frM c j ∧ ¬ (c = 0 ∧ j = 26)
theorem fr2 {τ τ' : q_M} (h : ag frM τ τ') : ag frM2 τ τ' := ag_sub h (fun _ _ hc => hc.1)
def Rfi (σ0 τ0 : q_M) (x y : Option (Int32 × q_M)) : Prop :=
  (∃ s σ' τ', s ≤ 250 ∧ x = some (-1, σ') ∧ y = some (0, τ') ∧ ag frX σ0 σ' ∧ ag frM2 τ0 τ' ∧ (∃ m, Blk σ' 16 m) ∧ σ'.1 23 1 = nI s ∧ τ'.1 0 24 = nI s) ∨
  (∃ v σ' τ' n p o, v ≤ 250 ∧ x = some (nI v, σ') ∧ y = some (1, τ') ∧ ag frX σ0 σ' ∧ ag frM2 τ0 τ' ∧ τ'.1 0 26 = nI v ∧ RM σ' 15 τ' 0 n p o)
def rdX2 (f : Nat) (v : Int32) (σ : q_M) : Option (Int32 × q_M) := if σ.1 23 2 = 0 then some (v, σ) else if σ.1 23 2 = 3 then (fX7_advance σ).bind fun o6 => fX4_readAll_c6 15 f (v + 1) o6 else some (-1, σ)
theorem ST_26 {σ τ : q_M} {by' : Nat → Nat} {t e n p o : Nat} {x : Int32} (h : ST σ τ by' t e n p o) : ST σ (q_I τ 0 26 x) by' t e n p o := by
  obtain ⟨TX, ⟨m1, m2, m3⟩, ⟨k1, k2, k3, k4, k5, k6, k7, k8⟩, hR⟩ := h
  refine ⟨TX, ⟨m1, by rw [I_of (by omega)]; exact m2, fun i hi => ⟨(m3 i hi).1, by rw [I_of (by omega)]; exact (m3 i hi).2⟩⟩, ⟨k1, k2, k3, k4, by rw [I_of (by omega)]; exact k5, by rw [I_of (by omega)]; exact k6, by rw [I_of (by omega)]; exact k7, k8⟩, RM_fr hR (ag_rf _ _) (ag_I (fun z => ?_))⟩
  have z' : (0 = 0 ∧ (26 = 11 ∨ 26 = 12 ∨ 26 = 13 ∨ 26 = 15 ∨ 26 = 17 ∨ 26 = 18)) ∨ 0 = 0 + 11 ∨ 0 = 0 + 12 := z
  omega
theorem rd_loop {σ0 τ0 : q_M} {by' : Nat → Nat} {t : Nat} : ∀ d v (σ τ : q_M) f g e n p o, t - e ≤ d → ST σ τ by' t e n p o → τ.1 0 26 = nI v → 1 ≤ v → 2 * v ≤ e + 1 → d < f → d < g → ag frX σ0 σ → ag frM2 τ0 τ → Rfi σ0 τ0 (rdX2 f (nI v) σ) (fX9_readAll_c23 0 g τ) := by
  intro d
  induction d with
  | zero =>
    intro v σ τ f g e n p o hd h h26 v1 v2 hf hg aX aM
    obtain ⟨g, rfl⟩ : ∃ z, g = z + 1 := ⟨g - 1, by omega⟩
    have hb := tok_b (by' := by') h.2.2.1.1
    have t250 := h.1.1
    have hk : tK by' t e = 0 := if_neg (by omega)
    have k3 := h.2.2.1.2.2.1
    have k6 := h.2.2.1.2.2.2.2.2.1
    rw [hk] at k3 k6
    refine Or.inr ⟨v, σ, τ, n, p, o, by omega, ?_, ?_, aX, aM, h26, h.2.2.2⟩
    · unfold rdX2
      rw [k3, if_pos (show nI 0 = 0 from rfl)]
    · show fX9_readAll_c23b 0 (fX9_readAll_c23 0 g) τ = _
      unfold fX9_readAll_c23b
      rw [k6, if_pos (show nI 0 = 0 from rfl)]
  | succ d ih =>
    intro v σ τ f g e n p o hd h h26 v1 v2 hf hg aX aM
    obtain ⟨f, rfl⟩ : ∃ z, f = z + 1 := ⟨f - 1, by omega⟩
    obtain ⟨g, rfl⟩ : ∃ z, g = z + 1 := ⟨g - 1, by omega⟩
    have he := h.2.2.1.1
    have hb := tok_b (by' := by') he
    have t250 := h.1.1
    have k3 := h.2.2.1.2.2.1
    have k5 := h.2.2.1.2.2.2.2.1
    have k6 := h.2.2.1.2.2.2.2.2.1
    show Rfi σ0 τ0 (rdX2 (f + 1) (nI v) σ) (fX9_readAll_c23b 0 (fX9_readAll_c23 0 g) τ)
    unfold rdX2 fX9_readAll_c23b
    rw [k3, k6]
    by_cases q0 : tK by' t e = 0
    · rw [q0, if_pos (show nI 0 = 0 from rfl), if_pos (show nI 0 = 0 from rfl)]
      exact Or.inr ⟨v, σ, τ, n, p, o, by omega, rfl, rfl, aX, aM, h26, h.2.2.2⟩
    · have n0 : ¬ nI (tK by' t e) = 0 := fun z => q0 ((nI_eq (b := 0) (by omega) (by decide)).mp z)
      rw [if_neg n0, if_neg n0]
      by_cases q3 : tK by' t e = 3
      · have i3 : nI (tK by' t e) = 3 := by rw [q3]; rfl
        rw [if_pos i3, if_pos i3]
        obtain ⟨σ1, τ1, e1, e2, e3, e4, e5⟩ := adv h
        have hb2 := tok_b (by' := by') hb.2.2.1
        have l1 := hb.2.2.2.1 q0
        rw [e1, bs, e2, bs, nI_1]
        obtain ⟨r, σ2, τ2, s1, s2, s3, s4, s5, s6, s7⟩ := stm_ls e3
        show Rfi σ0 τ0 (fX4_readAll_c6b 15 (fX4_readAll_c6 15 f) (nI (v + 1)) σ1) _
        unfold fX4_readAll_c6b
        rw [if_neg (show ¬ (250 : Int32) < nI (v + 1) from nI_nlt (a := 250) (show v + 1 ≤ 250 by omega) (by omega)), s1, bs, s2, bs]
        have aX2 : ag frX σ0 σ2 := ag_tr aX (ag_tr (aT_fr e4) s3)
        have aM2 : ag frM2 τ0 τ2 := ag_tr aM (ag_tr (fr2 (pN_fr (pL_pN e5))) (fr2 s4))
        cases r with
        | false =>
          rw [b1_f, if_pos rfl, if_pos rfl]
          obtain ⟨s, z1, z2, z3⟩ := s6 rfl
          exact Or.inl ⟨s, σ2, τ2, z1, rfl, rfl, aX2, aM2, s5, z2, z3⟩
        | true =>
          rw [b1_t, if_neg b1_ne, if_neg b1_ne, ql]
          obtain ⟨e', n', p', o', z1, z2⟩ := s7 rfl
          have e26 : τ2.1 0 26 = nI v := by
            rw [(s4 0 26 (by unfold frM; omega)).1, (e5 0 26 (by unfold pL; omega)).1]; exact h26
          have hb3 := z2.2.2.1.1
          show Rfi σ0 τ0 (rdX2 f (nI (v + 1)) σ2) (fX9_readAll_c23 0 g (q_I τ2 0 26 (τ2.1 0 26 + 1)))
          rw [e26, nI_1]
          exact ih (v + 1) σ2 _ f g e' n' p' o' (by omega) (ST_26 z2) I_at (by omega) (by omega) (by omega) (by omega) aX2 (ag_tr aM2 (ag_I (fun w => w.2 ⟨rfl, rfl⟩)))
      · have n3 : ¬ nI (tK by' t e) = 3 := fun z => q3 ((nI_eq (b := 3) (by omega) (by decide)).mp z)
        rw [if_neg n3, if_neg n3]
        unfold fX9_isWrong
        rw [ql, bs, if_pos (Or.inl rfl), k5]
        exact Or.inl ⟨tS by' t e, σ, _, by omega, rfl, rfl, aX, ag_tr aM (ag_I (a := 0) (b := 24) (fun w => by have := w.1; unfold frM at this; omega)), ⟨n, h.2.2.2.1⟩, h.2.2.1.2.1, I_at⟩
theorem rd_all {σ τ : q_M} {by' : Nat → Nat} {t n p o : Nat} (TX : TpX σ by' t) (TM : TpM τ by' t) (hR : RM σ 15 τ 0 n p o) : Rfi σ τ (fX4_readAll 15 σ) (fX9_readAll 0 τ) := by
  have t250 := TX.1
  let σa : q_M := q_I σ 23 3 0
  let τa : q_M := q_I (q_I τ 0 26 1) 0 20 0
  have ax : ag aT σ σa := ag_I (by unfold aT; omega)
  have am : ag frM2 τ τa := ag_tr (ag_I (fun w => w.2 ⟨rfl, rfl⟩)) (ag_I (fun w => by have := w.1; unfold frM at this; omega))
  have TXa : TpX σa by' t := TpX_fr TX ax
  have TMa : TpM τa by' t := ⟨TM.1, by rw [(am 0 9 (by unfold frM2 frM; omega)).1]; exact TM.2.1, fun i hi => ⟨(TM.2.2 i hi).1, by rw [(am 9 i (by unfold frM2 frM; omega)).1]; exact (TM.2.2 i hi).2⟩⟩
  obtain ⟨σ1, a1, a2, a3, a4, a5, a6⟩ := X7_advance (e := 0) TXa (by omega) I_at
  obtain ⟨τ1, c1, c2, c3, c4, c5, c6⟩ := M_look (e := 0) TMa (by omega) I_at
  have hRa : RM σ 15 τa 0 n p o := RM_fr hR (ag_rf _ _) (fun c j hc => by
    have hc' : (c = 0 ∧ (j = 11 ∨ j = 12 ∨ j = 13 ∨ j = 15 ∨ j = 17 ∨ j = 18)) ∨ c = 0 + 11 ∨ c = 0 + 12 := hc
    exact ag_tr (P := fun c j => ¬ (c = 0 ∧ (j = 26 ∨ j = 20))) (ag_I (by omega)) (ag_I (by omega)) c j (by omega))
  have hST : ST σ1 τ1 by' t 0 n p o := ⟨TpX_fr TXa a1, TpM_fr TMa c1, ⟨by omega, a3, a4, a5, c2, c3, c4, c5⟩, RM_aT (RM_aT hRa ax (ag_rf _ _)) a1 (pL_pN c1)⟩
  obtain ⟨r, σ2, τ2, s1, s2, s3, s4, s5, s6, s7⟩ := stm_ls hST
  have aX2 : ag frX σ σ2 := ag_tr (aT_fr ax) (ag_tr (aT_fr a1) s3)
  have aM2 : ag frM2 τ τ2 := ag_tr am (ag_tr (fr2 (pN_fr (pL_pN c1))) (fr2 s4))
  have eX : fX4_readAll 15 σ = fX4_readAll_c6 15 q_FU 1 σ1 := by
    unfold fX4_readAll fX7_rewind
    rw [ql]
    show ((fX7_advance σa).bind _).bind _ = _
    rw [a6, bs, bs]
  have eM : fX9_readAll 0 τ = (fX9_statement 0 τ1).bind fun o4 => if o4.1 = 0 then some (0, o4.2) else fX9_readAll_c23 0 q_FU o4.2 := by
    unfold fX9_readAll
    rw [ql, ql]
    show (fX9_look 0 τa).bind _ = _
    rw [c6, bs]
  rw [eX, eM, s2, bs]
  show Rfi σ τ (fX4_readAll_c6b 15 (fX4_readAll_c6 15 399) 1 σ1) _
  unfold fX4_readAll_c6b
  rw [if_neg (by decide), s1, bs]
  cases r with
  | false =>
    rw [b1_f, if_pos rfl, if_pos rfl]
    obtain ⟨s, z1, z2, z3⟩ := s6 rfl
    exact Or.inl ⟨s, σ2, τ2, z1, rfl, rfl, aX2, aM2, s5, z2, z3⟩
  | true =>
    rw [b1_t, if_neg b1_ne, if_neg b1_ne]
    obtain ⟨e', n', p', o', z1, z2⟩ := s7 rfl
    have e26 : τ2.1 0 26 = nI 1 := by
      rw [(s4 0 26 (by unfold frM; omega)).1, (c1 0 26 (by unfold pL; omega)).1]
      show (q_I (q_I τ 0 26 1) 0 20 0).1 0 26 = _
      rw [I_of (by omega), I_at]; rfl
    show Rfi σ τ (rdX2 399 (nI 1) σ2) (fX9_readAll_c23 0 q_FU τ2)
    exact rd_loop (t - e') 1 σ2 τ2 399 q_FU e' n' p' o' (Nat.le_refl _) z2 e26 (by decide) (by omega) (by omega) (by show _ < 400; omega) aX2 aM2
/-- what reading leaves -/
def rdX : Nat → Nat → Prop := fun c j => ¬ ((1 ≤ c ∧ c ≤ 7) ∨ (15 ≤ c ∧ c ≤ 21) ∨ c = 23)
def rdM (kb : Nat) : Nat → Nat → Prop := fun c j => ¬ ((c = 0 ∧ (j = 9 ∨ j = 11 ∨ j = 12 ∨ j = 13 ∨ j = 15 ∨ j = 17 ∨ j = 18 ∨ (20 ≤ j ∧ j ≤ 24) ∨ j = 26)) ∨ c = 11 ∨ c = 12 ∨ c = 13 ∨ (c = kb ∧ (j = 11 ∨ j = 12 ∨ j = 13 ∨ j = 15 ∨ j = 17 ∨ j = 18)) ∨ c = kb + 11 ∨ c = kb + 12)
theorem rd_core {σ τ : q_M} {n p o t m kb : Nat} (hB : Blk σ 16 m) (hR : RM σ 1 τ 0 n p o) (hT : RTp σ τ t) (hk : 29 ≤ kb) : ∃ (r : Int32) (bad : Bool) (σ' τ' : q_M) (n' p' o' : Nat), fX8_read σ = some (r, if bad then rfX σ' 0 else σ') ∧ fX9_read_18 kb τ = some (r, if bad then rfM τ' 0 else τ') ∧ (∀ σ2 o, fX9_takeFrom kb 0 τ = some σ2 → fX9_readAll 0 σ2 = some o → o.2.1 0 27 = τ.1 0 27) ∧ ag rdX σ σ' ∧ ag (rdM kb) τ τ' ∧ RM σ' 1 τ' 0 n' p' o' ∧ (∃ m, Blk σ' 16 m) ∧ RTp σ' τ' 0 := by
  obtain ⟨t1, t2, t3, t4⟩ := hT
  obtain ⟨σ2, r1, r2, r3⟩ := X2_take (k := 15) (k1 := 1) (by omega) hR ⟨m, hB⟩
  obtain ⟨τ2, m0, m1, m2, m3, m4, m5, m6, m7, m8, m9⟩ := M_take (τ := τ) (k := kb) (k1 := 0) (by omega)
  let by' : Nat → Nat := fun i => (σ.1 24 i).toNatClampNeg
  have hby : ∀ i, i < t → by' i < 256 ∧ σ.1 24 i = nI (by' i) ∧ τ.1 9 i = nI (by' i) := fun i hi => by
    obtain ⟨b, b1, b2, b3⟩ := t4 i hi
    have : by' i = b := by
      show (σ.1 24 i).toNatClampNeg = b
      rw [b2, nI_clamp (by omega)]
    rw [this]
    exact ⟨b1, b2, b3⟩
  have TX : TpX σ2 by' t := ⟨t1, by rw [(r2 23 0 (Or.inr (by omega))).1]; exact t2, fun i hi => ⟨(hby i hi).1, by rw [(r2 24 i (Or.inr (by omega))).1]; exact (hby i hi).2.1⟩⟩
  have TM : TpM τ2 by' t := ⟨t1, by rw [(m0 0 9 (by intro z; omega)).1]; exact t3, fun i hi => ⟨(hby i hi).1, by rw [(m0 9 i (by intro z; omega)).1]; exact (hby i hi).2.2⟩⟩
  have rm2 : RM σ2 15 τ2 0 n p o := RM_fr r1 (ag_rf _ _) (fun c j hc => m0 c j (by
    have hc' : (c = 0 ∧ (j = 11 ∨ j = 12 ∨ j = 13 ∨ j = 15 ∨ j = 17 ∨ j = 18)) ∨ c = 0 + 11 ∨ c = 0 + 12 := hc
    intro z
    omega))
  have rmk : RM σ2 1 τ2 kb n p o := RM_tk (RM_fr hR (fun c j hc => r2 c j (by
    have hc' : 1 ≤ c ∧ c ≤ 1 + 6 := hc
    left; omega)) (ag_rf _ _)) m1 m2 m3 m4 m5 m6 m7 m8
  have aX2 : ag rdX σ σ2 := ag_sub r2 (fun c j hc => by
    unfold rdX at hc
    show c < 15 ∨ 15 + 6 < c
    omega)
  have aM2 : ag (rdM kb) τ τ2 := ag_sub m0 (fun c j hc => by unfold rdM at hc; omega)
  have t0 : ∀ σ3 τ3 : q_M, RTp (q_I σ3 23 0 0) (q_I τ3 0 9 0) 0 := fun σ3 τ3 => ⟨by decide, I_at, I_at, fun i hi => by omega⟩
  unfold fX8_read fX9_read_18
  rw [r3, bs, m9, bs]
  rcases rd_all TX TM rm2 with ⟨s, σ3, τ3, s250, e1, e2, aX, aM, ⟨m', B'⟩, e3, e4⟩ | ⟨v, σ3, τ3, n', p', o', v250, e1, e2, aX, aM, e3, R'⟩
  · have c27 : ∀ σ2' o', some τ2 = some σ2' → fX9_readAll 0 σ2' = some o' → o'.2.1 0 27 = τ.1 0 27 := fun σ2' o' z1 z2 => by
      cases z1
      rw [e2] at z2
      cases z2
      show τ3.1 0 27 = _
      rw [(aM 0 27 (by unfold frM2 frM; omega)).1, (m0 0 27 (by intro z; omega)).1]
    let σ4 : q_M := q_I σ3 23 0 0
    let τ4 : q_M := q_I τ3 0 9 0
    obtain ⟨τ5, k0, k1, k2, k3, k4, k5, k6, k7, k8, k9⟩ := M_take (τ := τ4) (k := 0) (k1 := kb) (by omega)
    have aX4 : ag rdX σ σ4 := ag_tr aX2 (ag_tr (ag_sub aX (fun c j hc => by unfold rdX at hc; unfold frX; omega)) (ag_I (by unfold rdX; omega)))
    have aM4 : ag (rdM kb) τ τ4 := ag_tr aM2 (ag_tr (ag_sub aM (fun c j hc => by unfold rdM at hc; unfold frM2 frM; omega)) (ag_I (by unfold rdM; omega)))
    have aM5 : ag (rdM kb) τ τ5 := ag_tr aM4 (ag_sub k0 (fun c j hc => by unfold rdM at hc; omega))
    have rm4 : RM σ4 1 τ4 kb n p o := RM_fr rmk (ag_tr (fun c j hc => aX c j (by
      have hc' : 1 ≤ c ∧ c ≤ 1 + 6 := hc
      unfold frX; omega)) (ag_I (fun z => by
      have z' : 1 ≤ 23 ∧ 23 ≤ 1 + 6 := z
      omega))) (ag_tr (fun c j hc => aM c j (by
      have hc' : (c = kb ∧ (j = 11 ∨ j = 12 ∨ j = 13 ∨ j = 15 ∨ j = 17 ∨ j = 18)) ∨ c = kb + 11 ∨ c = kb + 12 := hc
      unfold frM2 frM; omega)) (ag_I (fun z => by
      have z' : (0 = kb ∧ (9 = 11 ∨ 9 = 12 ∨ 9 = 13 ∨ 9 = 15 ∨ 9 = 17 ∨ 9 = 18)) ∨ 0 = kb + 11 ∨ 0 = kb + 12 := z
      omega)))
    refine ⟨-20 - nI s, true, σ4, τ5, n, p, o, ?_, ?_, c27, aX4, aM5, RM_tk rm4 k1 k2 k3 k4 k5 k6 k7 k8, ⟨m', Blk_fr B' (ag_I (fun z => by
      have z' : 16 ≤ 23 ∧ 23 ≤ 16 + 3 := z
      omega))⟩, RTp_fr (t0 σ3 τ3) (ag_rf _ _) (fun c j hc => k0 c j (by
      have hc' : (c = 0 ∧ j = 9) ∨ c = 9 := hc
      intro z; omega))⟩
    · rw [e1, bs, ql, if_pos rfl, X_bad, bs, e3]
      rfl
    · rw [e2, bs, ql, if_pos rfl]
      show (fX9_takeFrom 0 kb τ4).bind _ = _
      rw [k9, bs, M_bad, bs, show (rfM τ5 0).1 0 24 = nI s from by
        show (q_I τ5 10 2 _).1 0 24 = _
        rw [I_of (by omega), (k0 0 24 (by intro z; omega)).1]
        show (q_I τ3 0 9 0).1 0 24 = _
        rw [I_of (by omega)]; exact e4]
      rfl
  · have c27 : ∀ σ2' o', some τ2 = some σ2' → fX9_readAll 0 σ2' = some o' → o'.2.1 0 27 = τ.1 0 27 := fun σ2' o' z1 z2 => by
      cases z1
      rw [e2] at z2
      cases z2
      show τ3.1 0 27 = _
      rw [(aM 0 27 (by unfold frM2 frM; omega)).1, (m0 0 27 (by intro z; omega)).1]
    let σ4 : q_M := q_I σ3 23 0 0
    let τ4 : q_M := q_I τ3 0 9 0
    have aX4 : ag rdX σ σ4 := ag_tr aX2 (ag_tr (ag_sub aX (fun c j hc => by unfold rdX at hc; unfold frX; omega)) (ag_I (by unfold rdX; omega)))
    have aM4 : ag (rdM kb) τ τ4 := ag_tr aM2 (ag_tr (ag_sub aM (fun c j hc => by unfold rdM at hc; unfold frM2 frM; omega)) (ag_I (by unfold rdM; omega)))
    have rm4 : RM σ4 15 τ4 0 n' p' o' := RM_fr R' (ag_I (fun z => by
      have z' : 15 ≤ 23 ∧ 23 ≤ 15 + 6 := z
      omega)) (ag_I (fun z => by
      have z' : (0 = 0 ∧ (9 = 11 ∨ 9 = 12 ∨ 9 = 13 ∨ 9 = 15 ∨ 9 = 17 ∨ 9 = 18)) ∨ 0 = 0 + 11 ∨ 0 = 0 + 12 := z
      omega))
    have B4 : Blk σ4 (1 + 1) n := Blk_fr (k := 2) rmk.1 (ag_tr (fun c j hc => aX c j (by
      have hc' : 2 ≤ c ∧ c ≤ 2 + 3 := hc
      unfold frX; omega)) (ag_I (fun z => by
      have z' : 2 ≤ 23 ∧ 23 ≤ 2 + 3 := z
      omega)))
    obtain ⟨σ5, g1, g2, g3⟩ := X2_take (k := 1) (k1 := 15) (by omega) rm4 ⟨n, B4⟩
    refine ⟨nI v, false, σ5, τ4, n', p', o', ?_, ?_, c27, ag_tr aX4 (ag_sub g2 (fun c j hc => by
      unfold rdX at hc
      show c < 1 ∨ 1 + 6 < c
      omega)), aM4, g1, ⟨n', Blk_fr rm4.1 (fun c j hc => g2 c j (by
      have hc' : 15 + 1 ≤ c ∧ c ≤ 15 + 1 + 3 := hc
      right; omega))⟩, RTp_fr (t0 σ3 τ3) (fun c j hc => g2 c j (by
      have hc' : (c = 23 ∧ j = 0) ∨ c = 24 := hc
      right; omega)) (ag_rf _ _)⟩
    · rw [e1, bs, ql, if_neg (show ¬ nI v = -1 from nf1 v (by omega))]
      show (fX2_takeFrom 1 15 σ4).bind _ = _
      rw [g3, bs]
      rfl
    · rw [e2, bs, ql, if_neg b1_ne]
      show some ((q_I τ3 0 9 0).1 0 26, τ4) = _
      rw [I_of (by omega), e3]
      rfl
theorem Rel_rd {σ σ' τ τa τ' : q_M} {N N' K A A' n p o t n' p' o' kb : Nat} (h : Rel σ τ N K A n p o t) (hX : ag rdX σ σ') (hG : ∀ c j, c < N → ¬ (c = 0 ∧ j = 27) → τa.1 c j = τ.1 c j ∧ τa.2 c j = τ.2 c j) (hM : ag (rdM kb) τa τ') (hkb : 29 ≤ kb) (hkK : K ≠ 0 → K + 29 ≤ N ∧ K + 29 ≤ kb ∨ K ≠ 0 ∧ K + 29 ≤ N ∧ kb + 29 ≤ K) (hN : 29 ≤ N) (hS : RSt τ' N' K A') (hR : RM σ' 1 τ' 0 n' p' o') (hB : ∃ m, Blk σ' 16 m) (hT : RTp σ' τ' 0) : Rel σ' τ' N' K A' n' p' o' 0 := by
  obtain ⟨h1, h2, ⟨m3, h3⟩, ⟨m4, h4⟩, h5, h6, h7, h8⟩ := h
  have cM : ∀ c j, c < N → ¬ (c = 0 ∧ j = 27) → rdM kb c j → τ'.1 c j = τ.1 c j ∧ τ'.2 c j = τ.2 c j := fun c j hc hj hr => by
    have e1 := hM c j hr
    have e2 := hG c j hc hj
    exact ⟨e1.1.trans e2.1, e1.2.trans e2.2⟩
  refine ⟨hS, hR, ⟨m3, Blk_fr h3 (fun c j hc => hX c j ?_)⟩, hB, RKp_fr h5 (fun c j hc => hX c j ?_) (fun hK => fun c j hc => cM c j ?_ ?_ ?_), RSh_fr h6 (fun c j hc => hX c j ?_) (fun c j hc => cM c j ?_ ?_ ?_), RRf_fr h7 (fun c j hc => hX c j ?_) (fun c j hc => cM c j ?_ ?_ ?_), hT⟩
  · have hc' : 9 ≤ c ∧ c ≤ 9 + 3 := hc
    unfold rdX
    omega
  · have hc' : (8 ≤ c ∧ c ≤ 14) ∨ (c = 0 ∧ j = 3) := hc
    unfold rdX
    omega
  · have hc' : (c = K ∧ (j = 11 ∨ j = 12 ∨ j = 13 ∨ j = 15 ∨ j = 17 ∨ j = 18)) ∨ c = K + 11 ∨ c = K + 12 := hc
    have := hkK hK
    omega
  · have hc' : (c = K ∧ (j = 11 ∨ j = 12 ∨ j = 13 ∨ j = 15 ∨ j = 17 ∨ j = 18)) ∨ c = K + 11 ∨ c = K + 12 := hc
    omega
  · have hc' : (c = K ∧ (j = 11 ∨ j = 12 ∨ j = 13 ∨ j = 15 ∨ j = 17 ∨ j = 18)) ∨ c = K + 11 ∨ c = K + 12 := hc
    have := hkK hK
    have := K29 h1 hK
    unfold rdM
    omega
  · have hc' : 31 ≤ c := hc
    unfold rdX
    omega
  · have hc' : c = 1 ∨ c = 2 ∨ c = 3 ∨ c = 6 ∨ c = 7 ∨ c = 8 ∨ (21 ≤ c ∧ c ≤ 28) := hc
    omega
  · have hc' : c = 1 ∨ c = 2 ∨ c = 3 ∨ c = 6 ∨ c = 7 ∨ c = 8 ∨ (21 ≤ c ∧ c ≤ 28) := hc
    omega
  · have hc' : c = 1 ∨ c = 2 ∨ c = 3 ∨ c = 6 ∨ c = 7 ∨ c = 8 ∨ (21 ≤ c ∧ c ≤ 28) := hc
    unfold rdM
    omega
  · have hc' : c = 28 := hc
    unfold rdX
    omega
  · have hc' : c = 10 := hc
    omega
  · have hc' : c = 10 := hc
    omega
  · have hc' : c = 10 := hc
    unfold rdM
    omega
theorem op_read {σ1 : q_M} (h19 : σ1.1 0 19 = 0) (h27 : σ1.1 0 27 = 0) : Op_read σ1 RR := by
  intro σ τ N h
  have hNN := RR_N h
  obtain ⟨K, A, n, p, o, t, hR⟩ := h
  have hSt := hR.1
  obtain ⟨s1, s2, s3, s4, s5, s6, s7⟩ := hSt
  obtain ⟨m, hB⟩ := hR.2.2.2.1
  have N29 : 29 ≤ N := by have := hNN.1.2; omega
  have fin : ∀ {N' A' n' p' o' : Nat} (bad : Bool) {σ' τ' : q_M}, Rel σ' τ' N' K A' n' p' o' 0 → RR (if bad then rfX σ' 0 else σ') (if bad then rfM τ' 0 else τ') N' := by
    intro N' A' n' p' o' bad σ' τ' hr
    cases bad with
    | true => exact ⟨_, _, _, _, _, _, Rel_rf hr (by decide)⟩
    | false => exact ⟨_, _, _, _, _, _, hr⟩
  by_cases q : A = 0
  · let τ0 : q_M := q_I (glM τ σ1 N) 0 27 (nI N)
    have gl : ∀ c j, c < N → ¬ (c = 0 ∧ j = 27) → τ0.1 c j = τ.1 c j ∧ τ0.2 c j = τ.2 c j := fun c j hc hj => by
      refine ⟨?_, ?_⟩
      · show (q_I (glM τ σ1 N) 0 27 (nI N)).1 c j = _
        rw [I_of hj]
        show (if c < N then τ.1 c else σ1.1 (c - N)) j = _
        rw [if_pos hc]
      · show (if c < N then τ.2 c else σ1.2 (c - N)) j = _
        rw [if_pos hc]
    have rm0 : RM σ 1 τ0 0 n p o := RM_fr hR.2.1 (ag_rf _ _) (fun c j hc => gl c j (by
      have hc' : (c = 0 ∧ (j = 11 ∨ j = 12 ∨ j = 13 ∨ j = 15 ∨ j = 17 ∨ j = 18)) ∨ c = 0 + 11 ∨ c = 0 + 12 := hc
      omega) (by
      have hc' : (c = 0 ∧ (j = 11 ∨ j = 12 ∨ j = 13 ∨ j = 15 ∨ j = 17 ∨ j = 18)) ∨ c = 0 + 11 ∨ c = 0 + 12 := hc
      omega))
    have rt0 : RTp σ τ0 t := RTp_fr hR.2.2.2.2.2.2.2 (ag_rf _ _) (fun c j hc => gl c j (by
      have hc' : (c = 0 ∧ j = 9) ∨ c = 9 := hc
      omega) (by
      have hc' : (c = 0 ∧ j = 9) ∨ c = 9 := hc
      omega))
    obtain ⟨r, bad, σ', τ', n', p', o', e1, e2, e3, e4, e5, e6, e7, e8⟩ := rd_core (kb := N) hB rm0 rt0 N29
    refine ⟨r, _, _, e1, Or.inl ⟨by rw [s2, q]; rfl, fun σ2 o' z1 z2 => (e3 σ2 o' z1 z2).trans I_at, e2, fin (A' := N) bad (Rel_rd hR e4 gl e5 N29 (fun hK => ?_) N29 ?_ e6 e7 e8)⟩⟩
    · rcases s3 with z | z
      · exact absurd z hK
      · left; omega
    · have f19 : ∀ k, k % 29 = 0 → k ≤ N → τ'.1 k 19 = τ0.1 k 19 := fun k hk1 hk2 => (e5 k 19 (by unfold rdM; omega)).1
      have f27 : ∀ k, k % 29 = 0 → k ≤ N → τ'.1 k 27 = τ0.1 k 27 := fun k hk1 hk2 => (e5 k 27 (by unfold rdM; omega)).1
      refine ⟨?_, ?_, ?_, Or.inr ⟨hNN.2.1, by omega⟩, ?_, ?_, fun k hk hk2 hk0 => ?_⟩
      · rw [f19 0 (by omega) (by omega), (gl 0 19 (by omega) (by omega)).1]; exact s1
      · rw [f27 0 (by omega) (by omega)]; exact I_at
      · rcases s3 with z | z
        · exact Or.inl z
        · exact Or.inr ⟨z.1, by omega⟩
      · intro hK
        rcases s3 with z | z
        · exact absurd z hK
        · omega
      · rw [if_pos q] at s6
        rw [if_neg (show ¬ N = 0 by omega)]
        omega
      · by_cases z : k < N
        · rw [f19 k hk2 (by omega), f27 k hk2 (by omega), (gl k 19 z (by omega)).1, (gl k 27 z (by omega)).1]
          exact s7 k z hk2 hk0
        · have : k = N := by have := hNN.2.1; omega
          subst this
          rw [f19 k hk2 (by omega), f27 k hk2 (by omega)]
          have g1 : τ0.1 k 19 = σ1.1 0 19 := by
            show (q_I (glM τ σ1 k) 0 27 (nI k)).1 k 19 = _
            rw [I_of (by omega)]
            show (if k < k then τ.1 k else σ1.1 (k - k)) 19 = _
            rw [if_neg (by omega), Nat.sub_self]
          have g2 : τ0.1 k 27 = σ1.1 0 27 := by
            show (q_I (glM τ σ1 k) 0 27 (nI k)).1 k 27 = _
            rw [I_of (by omega)]
            show (if k < k then τ.1 k else σ1.1 (k - k)) 27 = _
            rw [if_neg (by omega), Nat.sub_self]
          rw [g1, g2]
          exact ⟨h19, h27⟩
  · rcases s4 with z | ⟨k1, k2⟩
    · exact absurd z q
    have A29 : 29 ≤ A := by omega
    obtain ⟨r, bad, σ', τ', n', p', o', e1, e2, e3, e4, e5, e6, e7, e8⟩ := rd_core (kb := A) hB hR.2.1 hR.2.2.2.2.2.2.2 A29
    refine ⟨r, _, _, e1, Or.inr ⟨A, s2, ⟨k1, k2⟩, q, fun σ2 o' z1 z2 => (e3 σ2 o' z1 z2).trans s2, e2, fin (A' := A) bad (Rel_rd hR e4 (fun _ _ _ _ => ⟨rfl, rfl⟩) e5 A29 (fun hK => ?_) N29 ?_ e6 e7 e8)⟩⟩
    · have := s5 hK
      rcases s3 with z | z
      · exact absurd z hK
      · by_cases y : K < A
        · left; omega
        · right; omega
    · refine RSt_fr hR.1 (fun c j hc => e5 c j ?_)
      have hc' : c % 29 = 0 ∧ (j = 19 ∨ j = 27) := hc
      unfold rdM
      omega
