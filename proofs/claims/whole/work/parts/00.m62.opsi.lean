/-! Operations: pieces, status, spare, faces. -/
theorem op_status : Op_status RR := by
  intro σ τ N x h
  have h0 := h
  obtain ⟨K, A, n, p, o, t, hR⟩ := h
  obtain ⟨h1, h2, h3, h4, h5, h6, h7, h8, h9, h10, h11, ⟨u, u1, u2, u3, u4⟩, ⟨w, w1, w2, w3, w4⟩, h14, h15⟩ := hR.2.1
  have B : Blk σ 2 n := h1
  have o256 := p256 h8 h5
  have hS := hR.2.2.2.2.2.1
  have hF := hR.2.2.2.2.2.2.1
  obtain ⟨t1, t2, t3, t4⟩ := hR.2.2.2.2.2.2.2
  unfold fX8_status fX9_status
  by_cases q0 : x = 0
  · rw [if_pos q0, if_pos q0, B.2.1, h2]
    exact ⟨_, _, _, rfl, rfl, h0⟩
  rw [if_neg q0, if_neg q0]
  by_cases q1 : x = 1
  · rw [if_pos q1, if_pos q1, J_bits, bs, M_bits, bs, h3]
    exact ⟨_, _, _, rfl, rfl, h0⟩
  rw [if_neg q1, if_neg q1]
  by_cases q2 : x = 2
  · rw [if_pos q2, if_pos q2, h6, h7]
    exact ⟨_, _, _, rfl, rfl, h0⟩
  rw [if_neg q2, if_neg q2]
  by_cases q3 : x = 3
  · rw [if_pos q3, if_pos q3, h9, h10, J_bitsI o256, bs, nI_l (by omega), M_bits, bs, cnt_lN o o256]
    exact ⟨_, _, _, rfl, rfl, h0⟩
  rw [if_neg q3, if_neg q3]
  by_cases q4 : x = 4
  · rw [if_pos q4, if_pos q4, u3, u4]
    exact ⟨_, _, _, rfl, rfl, h0⟩
  rw [if_neg q4, if_neg q4]
  by_cases q5 : x = 5
  · rw [if_pos q5, if_pos q5, w3, w4]
    exact ⟨_, _, _, rfl, rfl, h0⟩
  rw [if_neg q5, if_neg q5]
  by_cases q6 : x = 6
  · rw [if_pos q6, if_pos q6, t2, t3]
    exact ⟨_, _, _, rfl, rfl, h0⟩
  rw [if_neg q6, if_neg q6]
  by_cases q7 : x = 7
  · rw [if_pos q7, if_pos q7]
    have a0 : ∀ m, nI m + 0 = nI m := fun m => nI_add m 0
    have eX : fX8_countHeld σ = some (nI (ctN (fun s => !decide (τ.1 1 s = 0)) 8), σ) := by
      unfold fX8_countHeld
      refine lq2 fX8_countHeld_c4 σ (fun i => nI (ctN (fun s => !decide (τ.1 1 s = 0)) i)) 8 _ (by decide) ?_ ?_
      · intro f i hi
        show fX8_countHeld_c4b (fX8_countHeld_c4 f) (nI (ctN (fun s => !decide (τ.1 1 s = 0)) i)) (nI i) σ = fX8_countHeld_c4 f (nI (ctN (fun s => !decide (τ.1 1 s = 0)) i + (if (!decide (τ.1 1 i = 0)) then 1 else 0))) (nI (i + 1)) σ
        unfold fX8_countHeld_c4b
        rw [if_neg (show ¬ (8 : Int32) ≤ nI i from nI_ge (a := i) (b := 8) hi (by decide)), gd hi (by decide), nI_clamp (by omega), nI_1]
        rcases hS i hi with ⟨e1, e2⟩ | ⟨so, m, e1, e2, e3, e4, _⟩ | ⟨kd, a, b, e1, e2, e3, _⟩
        · rw [e1, if_pos rfl, e2, decide_eq_true rfl]; rfl
        · rw [e3, if_neg (nI_m1 so (by omega)), e4, decide_eq_false (show ¬ (1 : Int32) = 0 by decide), nI_1]; rfl
        · obtain ⟨k1, k5, _, _⟩ := e1
          rw [e2, if_neg (nI_m1 (10 + kd) (by omega)), e3, decide_eq_false (show ¬ (2 : Int32) = 0 by decide), nI_1]; rfl
      · intro f
        show fX8_countHeld_c4b (fX8_countHeld_c4 f) (nI (ctN (fun s => !decide (τ.1 1 s = 0)) 8)) (nI 8) σ = _
        unfold fX8_countHeld_c4b
        rw [if_pos (show (8 : Int32) ≤ nI 8 by decide)]
    have eM : fX9_status_c94 0 x q_FU 0 0 τ = some (nI (ctN (fun s => !decide (τ.1 1 s = 0)) 8), τ) := by
      refine lq2 (fX9_status_c94 0 x) τ (fun i => nI (ctN (fun s => !decide (τ.1 1 s = 0)) i)) 8 _ (by decide) ?_ ?_
      · intro f i hi
        show fX9_status_c94b 0 x (fX9_status_c94 0 x f) (nI (ctN (fun s => !decide (τ.1 1 s = 0)) i)) (nI i) τ = fX9_status_c94 0 x f (nI (ctN (fun s => !decide (τ.1 1 s = 0)) i + (if (!decide (τ.1 1 i = 0)) then 1 else 0))) (nI (i + 1)) τ
        unfold fX9_status_c94b
        rw [if_neg (show ¬ (8 : Int32) ≤ nI i from nI_ge (a := i) (b := 8) hi (by decide)), gd hi (by decide), nI_clamp (by omega), nI_1, a0, nI_1]
        by_cases q : τ.1 1 i = 0
        · rw [if_pos (show τ.1 (0 + 1) i = 0 from q), decide_eq_true q]; rfl
        · rw [if_neg (show ¬ τ.1 (0 + 1) i = 0 from q), decide_eq_false q]; rfl
      · intro f
        show fX9_status_c94b 0 x (fX9_status_c94 0 x f) (nI (ctN (fun s => !decide (τ.1 1 s = 0)) 8)) (nI 8) τ = _
        unfold fX9_status_c94b
        rw [if_pos (show (8 : Int32) ≤ nI 8 by decide)]
    rw [eX, bs, eM]
    exact ⟨_, _, _, rfl, rfl, h0⟩
  rw [if_neg q7, if_neg q7, show (12 : Int64) = lN 12 from rfl, show (16 : Int64) = lN 16 from rfl, M_inG (by decide) (by decide), bs]
  by_cases q8 : x < 12
  · rw [if_pos q8, decide_eq_true (show x < nI 12 from q8)]
    exact ⟨-1, σ, τ, rfl, rfl, h0⟩
  rw [if_neg q8, decide_eq_false (show ¬ x < nI 12 from q8)]
  by_cases q9 : (17 : Int32) ≤ x
  · rw [if_pos q9, decide_eq_false (fun z => (i_le (a := 16) (by decide)).mp z q9)]
    exact ⟨-1, σ, τ, rfl, rfl, h0⟩
  · rw [if_neg q9, decide_eq_true ((i_le (a := 16) (by decide)).mpr q9), if_neg (show ¬ b1 (!false && true) = 0 from b1_ne)]
    obtain ⟨i, hi, rfl⟩ : ∃ i, i < 5 ∧ x = nI (12 + i) := by
      obtain ⟨v, hv, rfl⟩ := nI_of (x := x) (fun z => q8 (by
        rw [Int32.lt_iff_toInt_lt] at z ⊢
        have e1 : (12 : Int32).toInt = 12 := by decide
        have e0 : (0 : Int32).toInt = 0 := by decide
        omega))
      have v12 : 12 ≤ v := by
        rcases Nat.lt_or_ge v 12 with z | z
        · exact absurd (nI_lt (b := 12) z (by decide)) q8
        · exact z
      have v17 : v < 17 := by
        rcases Nat.lt_or_ge v 17 with z | z
        · exact z
        · exact absurd (nI_le (a := 17) z hv) q9
      exact ⟨v - 12, by omega, by rw [show 12 + (v - 12) = v by omega]⟩
    rw [show nI (12 + i) - 12 = nI i from (by
        have := pk_sub (a := 12 + i) (b := 12) (by omega)
        rw [show 12 + i - 12 = i by omega] at this
        exact this), show nI (12 + i) - 10 = nI (i + 2) from (by
        have := pk_sub (a := 12 + i) (b := 10) (by omega)
        rw [show 12 + i - 10 = i + 2 by omega] at this
        exact this), gd hi (by decide), gd (show i + 2 < 8 by omega) (by decide), nI_clamp (by omega), nI_clamp (by omega)]
    refine ⟨_, _, _, rfl, ?_, h0⟩
    rw [show σ.1 28 i = τ.1 (0 + 10) (i + 2) from hF i hi]
theorem off_keep : ∀ p, p < 8 → ∀ o, o < 2 ^ p → nI o &&& (q_sl 1 (nI p) ^^^ (-1)) = nI o := by decide +kernel
/-- one more piece, alike -/
theorem RM_add {σ τ : q_M} {k n p o : Nat} {x : Int64} (h : RM σ k τ 0 n p o) (p8 : p < 8) (hx : inB n x) : RM (q_I (q_L σ (k + 5) p x) k 2 (nI (p + 1))) k (q_I (q_I (q_L τ 11 p x) 0 15 (nI o)) 0 13 (nI (p + 1))) 0 n (p + 1) o := by
  obtain ⟨h1, h2, h3, h4, h5, h6, h7, h8, h9, h10, h11, ⟨u, u1, u2, u3, u4⟩, ⟨w, w1, w2, w3, w4⟩, h14, h15⟩ := h
  refine ⟨Blk_fr h1 (ag_tr (ag_L (fun z => ?_)) (ag_I (fun z => ?_))), ?_, ?_, ?_, by omega, I_at, I_at, ?_, ?_, ?_, ?_, ⟨u, u1, u2, ?_, ?_⟩, ⟨w, w1, w2, ?_, ?_⟩, ?_, ?_⟩
  · have z' : k + 1 ≤ k + 5 ∧ k + 5 ≤ k + 1 + 3 := z
    omega
  · have z' : k + 1 ≤ k ∧ k ≤ k + 1 + 3 := z
    omega
  · rw [I_of (by omega), I_of (by omega)]; exact h2
  · show (q_L σ (k + 5) p x).2 k 1 = (q_L τ 11 p x).2 0 12
    rw [L_of (by omega), L_of (by omega)]; exact h3
  · show inB n ((q_L τ 11 p x).2 0 12)
    rw [L_of (by omega)]; exact h4
  · rw [Nat.pow_succ]; omega
  · rw [I_of (by omega)]; exact h9
  · rw [I_of (by omega), I_at]
  · intro e he
    show (q_L σ (k + 5) p x).2 (k + 5) e = (q_L τ 11 p x).2 11 e ∧ inB n ((q_L τ 11 p x).2 11 e)
    by_cases q : e = p
    · subst q
      rw [L_at, L_at]
      exact ⟨rfl, hx⟩
    · rw [L_of (fun z => q z.2), L_of (fun z => q z.2)]
      exact h11 e (by omega)
  · rw [I_of (by omega)]; exact u3
  · rw [I_of (by omega), I_of (by omega)]; exact u4
  · rw [I_of (by omega)]; exact w3
  · rw [I_of (by omega), I_of (by omega)]; exact w4
  · intro i hi
    show inB n ((q_L σ (k + 5) p x).2 (k + 6) i)
    rw [L_of (by omega)]
    exact h14 i hi
  · intro c hc
    obtain ⟨e, e1, e2, e3⟩ := h15 c hc
    refine ⟨e, e1, by rw [I_of (by omega), I_of (by omega)]; exact e2, fun i hi => ?_⟩
    show tb ((q_L σ (k + 5) p x).2 (k + 6) i) c = _
    rw [L_of (by omega)]
    exact e3 i hi
theorem op_piece : Op_piece RR := by
  intro σ τ N x h
  have h0 := h
  obtain ⟨K, A, n, p, o, t, hR⟩ := h
  obtain ⟨h1, h2, h3, h4, h5, h6, h7, h8, h9, h10, h11, _⟩ := hR.2.1
  have hN : MN τ n := ⟨h1.1, h2⟩
  have B : Blk σ 2 n := h1
  unfold fX8_piece fX9_piece
  rw [h6, h7]
  by_cases q : p = 8
  · subst q
    rw [if_neg (by decide), X_ful, bs, if_pos (by decide), M_ful, bs]
    exact ⟨_, _, _, rfl, rfl, RR_rf h0 (by decide)⟩
  · have p8 : p < 8 := by omega
    unfold fX2_addPiece
    rw [if_pos (show nI p < 8 from nI_lt (b := 8) p8 (by decide)), if_neg (show ¬ nI p = 8 from fun z => q ((nI_eq (b := 8) (by omega) (by decide)).mp z)), h6, if_neg (show ¬ (8 : Int32) ≤ nI p from nI_ge (a := p) (b := 8) p8 (by decide)), gd p8 (by decide), ql, ql, bs, M_block hN, bs, gd p8 (by decide), ql, ql, ql, nI_clamp (by omega), B.2.2.2.1]
    show ∃ r σ' τ', some ((q_I (q_L σ 6 p (x &&& allL n)) 1 2 (σ.1 1 2 + 1)).1 1 2 - 1, q_I (q_L σ 6 p (x &&& allL n)) 1 2 (σ.1 1 2 + 1)) = some (r, σ') ∧ some ((q_I (q_L τ 11 p (x &&& allL n)) 0 15 (τ.1 0 15 &&& (q_sl 1 (τ.1 0 13) ^^^ (-1)))).1 0 13, q_I (q_I (q_L τ 11 p (x &&& allL n)) 0 15 (τ.1 0 15 &&& (q_sl 1 (τ.1 0 13) ^^^ (-1)))) 0 13 ((q_I (q_L τ 11 p (x &&& allL n)) 0 15 (τ.1 0 15 &&& (q_sl 1 (τ.1 0 13) ^^^ (-1)))).1 0 13 + 1)) = some (r, τ') ∧ RR σ' τ' N
    rw [I_at, I_of (show ¬ (0 = 0 ∧ 13 = 15) by omega), show (q_L τ 11 p (x &&& allL n)).1 0 13 = nI p from h7, h6, h7, h10, off_keep p p8 o h8, nI_1, nI_pred]
    exact ⟨_, _, _, rfl, rfl, K, A, n, p + 1, o, t, Rel_mo hR (ag_tr (ag_L (nX (by omega))) (ag_I (nX (by omega)))) (ag_tr (ag_L (nM2 (by omega))) (ag_tr (ag_I (nM (by omega))) (ag_I (nM (by omega))))) (RM_add (k := 1) hR.2.1 p8 (inB_and_all h1.1))⟩
/-- the cubes beside a piece -/
theorem M_spare17 {τ : q_M} {n d i : Nat} {acc : Int64} (h : MN τ n) (hd : d < n * n * n) (hi : i < 8) (rec5 : Int64 → Int32 → q_M → Option (Int64 × q_M)) : fX9_spareOf_c17 0 (nI i) rec5 q_FU acc (nI d) 0 τ = rec5 (acc ||| (if tb (τ.2 11 i) d then ngb n (-1) d 6 else 0)) (nI (d + 1)) τ := by
  have hn := h.1
  have h64 := hn.cube
  cases q : tb (τ.2 11 i) d with
  | false =>
    show fX9_spareOf_c17b 0 (nI i) rec5 (fX9_spareOf_c17 0 (nI i) rec5 399) acc (nI d) 0 τ = _
    unfold fX9_spareOf_c17b
    rw [gd hi (by decide), nI_clamp (show i < 2 ^ 31 by omega), show τ.2 (0 + 11) i = τ.2 11 i from rfl, M_hasF (by omega) q, bs, if_pos rfl, nI_1, if_neg (by decide), or0]
  | true =>
    rw [if_pos rfl]
    have key := lp_run (fun f (w : Nat) => fX9_spareOf_c17 0 (nI i) rec5 f (acc ||| ngb n (-1) d w) (nI d) (nI w) τ) id 6 (rec5 (acc ||| ngb n (-1) d 6) (nI (d + 1)) τ) ?_ ?_ q_FU (by decide)
    · have e : acc ||| ngb n (-1) d 0 = acc := or0 acc
      have key2 : fX9_spareOf_c17 0 (nI i) rec5 q_FU (acc ||| ngb n (-1) d 0) (nI d) (nI 0) τ = _ := key
      rw [e] at key2
      exact key2
    · intro f w hw
      show fX9_spareOf_c17b 0 (nI i) rec5 (fX9_spareOf_c17 0 (nI i) rec5 f) (acc ||| ngb n (-1) d w) (nI d) (nI w) τ = fX9_spareOf_c17 0 (nI i) rec5 f (acc ||| (ngb n (-1) d w ||| nb1 n (-1) d w)) (nI d) (nI (w + 1)) τ
      unfold fX9_spareOf_c17b
      rw [gd hi (by decide), nI_clamp (show i < 2 ^ 31 by omega), show τ.2 (0 + 11) i = τ.2 11 i from rfl, M_hasT (by omega) q, bs, if_neg b1_ne, if_neg (show ¬ (6 : Int32) ≤ nI w from nI_ge (a := w) (b := 6) hw (by decide)), M_from h hd hw, bs, nI_1]
      cases z : nbr n d w with
      | none => rw [frm_none z, if_pos rfl, nb1_n z, or_as]
      | some e =>
        have he := nbr_lt hn hd hw z
        rw [frm_some z, if_neg (nI_m1 e (by omega)), nb1_s z, if_pos (tb_m1 (show e < 64 by omega)), ql, or_as]
        rfl
    · intro f
      show fX9_spareOf_c17b 0 (nI i) rec5 (fX9_spareOf_c17 0 (nI i) rec5 f) (acc ||| ngb n (-1) d 6) (nI d) (nI 6) τ = _
      unfold fX9_spareOf_c17b
      rw [gd hi (by decide), nI_clamp (show i < 2 ^ 31 by omega), show τ.2 (0 + 11) i = τ.2 11 i from rfl, M_hasT (by omega) q, bs, if_neg b1_ne, if_pos (show (6 : Int32) ≤ nI 6 by decide), nI_1]
theorem ngs_bs {n : Nat} (hn : Sz n) {x : Int64} (hx : inB n x) : ngs n (-1) x (n * n * n) = bsd n x 6 := tb_ext fun e he => by
  rw [Bool.eq_iff_iff, tb_ngs hn _ (Nat.le_refl _), tb_bs6 hn]
  constructor
  · rintro ⟨⟨d, h1, h2, h3⟩, _⟩
    obtain ⟨w, hw, hh⟩ := h3
    exact ⟨nbr_lt hn h1 hw hh, d, adj_sym hn h1 ⟨w, hw, hh⟩, h2⟩
  · rintro ⟨h1, d, h2, h3⟩
    exact ⟨⟨d, hx d h3, h3, adj_sym hn h1 h2⟩, tb_m1 he⟩
/-- the spare cubes beside a piece -/
def spr (n : Nat) (x fig und : Int64) : Int64 := dif (bsd n x 6 &&& emp n fig) und
theorem X2_spare {σ τ : q_M} {N K A n p o t i : Nat} (hR : Rel σ τ N K A n p o t) (hi : i < p) : fX2_spareBeside 1 (nI i) σ = some (spr n (τ.2 11 i) (τ.2 0 12) (unP (τ.2 11) (fun j => o.testBit j) p), σ) := by
  obtain ⟨h1, h2, h3, h4, h5, h6, h7, h8, h9, h10, h11, _⟩ := hR.2.1
  have B : Blk σ 2 n := h1
  have o256 := p256 h8 h5
  unfold fX2_spareBeside fX2_emptyCubes
  rw [gd (show i < 8 by omega) (by decide), nI_clamp (by omega), show σ.2 (1 + 5) i = τ.2 11 i from (h11 i hi).1, X0_beside h1 (h11 i hi).2, bs, bs, h9, X2_inPieces h6 h5 (fun j hj => off_b1 o256 hj), bs, show σ.2 (1 + 1) 2 = allL n from B.2.2.2.1, h3, unP_cg (S := σ.2 (1 + 5)) (S' := τ.2 11) (wq' := fun j => o.testBit j) (fun j hj => ⟨(h11 j hj).1, rfl⟩)]
  rfl
theorem M_spare {σ τ : q_M} {N K A n p o t i : Nat} (hR : Rel σ τ N K A n p o t) (hi : i < p) : fX9_spareOf 0 (nI i) τ = some (spr n (τ.2 11 i) (τ.2 0 12) (unP (τ.2 11) (fun j => o.testBit j) p), τ) := by
  obtain ⟨h1, h2, h3, h4, h5, h6, h7, h8, h9, h10, h11, _⟩ := hR.2.1
  have hN : MN τ n := ⟨h1.1, h2⟩
  have hn := h1.1
  have h64 := hn.cube
  have o256 := p256 h8 h5
  unfold fX9_spareOf
  refine lq2 (fX9_spareOf_c5 0 (nI i)) τ (ngs n (-1) (τ.2 11 i)) (n * n * n) _ (by omega) ?_ ?_
  · intro f d hd
    show fX9_spareOf_c5b 0 (nI i) (fX9_spareOf_c5 0 (nI i) f) (ngs n (-1) (τ.2 11 i) d) (nI d) τ = fX9_spareOf_c5 0 (nI i) f (ngs n (-1) (τ.2 11 i) d ||| (if tb (τ.2 11 i) d then ngb n (-1) d 6 else 0)) (nI (d + 1)) τ
    unfold fX9_spareOf_c5b
    rw [M_many hN, bs, if_neg (nI_ge hd (by omega)), M_spare17 hN hd (by omega)]
  · intro f
    show fX9_spareOf_c5b 0 (nI i) (fX9_spareOf_c5 0 (nI i) f) (ngs n (-1) (τ.2 11 i) (n * n * n)) (nI (n * n * n)) τ = _
    unfold fX9_spareOf_c5b
    rw [M_many hN, bs, if_pos (nI_le (Nat.le_refl _) (by omega)), M_empty hN, bs, M_inPieces h7 h5 h10 o256, bs, ngs_bs hn (h11 i hi).2]
    rfl
theorem op_spare : Op_spare RR := by
  intro σ τ N x h
  have h0 := h
  obtain ⟨K, A, n, p, o, t, hR⟩ := h
  obtain ⟨h1, h2, h3, h4, h5, h6, h7, _⟩ := hR.2.1
  unfold fX8_spare fX9_spare
  rw [X8_isPiece h6, bs, M_isPiece h7 h5, bs]
  rcases isI_c x (p := p) (by omega) with q | ⟨j, hj, rfl⟩
  · rw [q, b1_f, if_pos rfl, if_pos rfl]
    exact ⟨_, _, _, rfl, rfl, h0⟩
  · rw [isI_y hj (by omega), b1_t, if_neg b1_ne, if_neg b1_ne, X2_spare hR hj, bs, M_spare hR hj, bs]
    exact ⟨_, _, _, rfl, rfl, h0⟩
theorem op_grow : Op_grow RR := by
  intro σ τ N x h
  have h0 := h
  obtain ⟨K, A, n, p, o, t, hR⟩ := h
  obtain ⟨h1, h2, h3, h4, h5, h6, h7, h8, h9, h10, h11, _⟩ := hR.2.1
  have o256 := p256 h8 h5
  unfold fX8_grow fX9_grow
  rw [X8_onPiece h6 h5 h9 o256, bs, M_isPiece h7 h5, bs]
  rcases isI_c x (p := p) (by omega) with q | ⟨j, hj, rfl⟩
  · rw [opr_b q, q, b1_f, if_pos rfl, if_neg n2', X_bad, bs, M_bad, bs]
    exact ⟨_, _, _, rfl, rfl, RR_rf h0 (by decide)⟩
  · rw [isI_y hj (by omega), b1_t, if_neg b1_ne, M_isOff h10 o256 (by omega), bs]
    cases q : o.testBit j with
    | true =>
      rw [opr_s hj (by omega) q, if_neg n5', b1_t, if_neg b1_ne, X_stk, bs, M_stk, bs]
      exact ⟨_, _, _, rfl, rfl, RR_rf h0 (by decide)⟩
    | false =>
      rw [opr_g hj (by omega) q, if_pos rfl, b1_f, if_pos rfl, X2_spare hR hj, bs, M_spare hR hj, bs, gd (show j < 8 by omega) (by decide), gd (show j < 8 by omega) (by decide), gd (show j < 8 by omega) (by decide), gd (show j < 8 by omega) (by decide), ql, ql, J_bits, bs, M_bits, bs, nI_clamp (by omega), show σ.2 6 j = τ.2 (0 + 11) j from (h11 j hj).1]
      exact ⟨_, _, _, rfl, rfl, K, A, n, p, o, t, Rel_pc hR (inB_or (h11 j hj).2 (sbs_in (dif_sbs _ _) (inB_and_l (inB_bsd n _ 6))))⟩
/-- the faces of a piece at the figure -/
def fcF (n : Nat) (x fig : Int64) (c : Nat) : Nat → Nat
  | 0 => 0
  | w + 1 => fcF n x fig c w + (if tb x c && tbo fig (nbr n c w) then 1 else 0)
def fcW (n : Nat) (x fig : Int64) : Nat → Nat
  | 0 => 0
  | w + 1 => fcW n x fig w + cnt (shf n w x &&& fig)
theorem cnt_bij {n : Nat} (hn : Sz n) {x fig : Int64} {w : Nat} (hw : w < 6) : cnt (shf n w x &&& fig) = smF (fun c => if tb x c && tbo fig (nbr n c w) then 1 else 0) (n * n * n) := by
  have h64 := hn.cube
  have swap : ∀ m, m ≤ n * n * n → ∀ y : Int64, (∀ d, tb y d = true ↔ ∃ c, c < m ∧ (tb x c && tbo fig (nbr n c w)) = true ∧ nbr n c w = some d) → cnt y = smF (fun c => if tb x c && tbo fig (nbr n c w) then 1 else 0) m := by
    intro m
    induction m with
    | zero =>
      intro _ y hy
      have : y = 0 := sbs_eq (fun d hd => by
        obtain ⟨c, hc, _⟩ := (hy d).mp hd
        omega) (fun d hd => by rw [tb_0] at hd; cases hd)
      rw [this, cnt_z]
      rfl
    | succ m ih =>
      intro hm y hy
      show cnt y = smF _ m + (if tb x m && tbo fig (nbr n m w) then 1 else 0)
      cases q : (tb x m && tbo fig (nbr n m w)) with
      | false =>
        rw [if_neg (by decide), Nat.add_zero]
        refine ih (by omega) y (fun d => ?_)
        rw [hy d]
        constructor
        · rintro ⟨c, h1, h2, h3⟩
          rcases Nat.lt_or_ge c m with z | z
          · exact ⟨c, z, h2, h3⟩
          · rw [show c = m by omega, q] at h2; cases h2
        · rintro ⟨c, h1, h2, h3⟩
          exact ⟨c, by omega, h2, h3⟩
      | true =>
        rw [if_pos rfl]
        cases z : nbr n m w with
        | none => rw [z] at q; simp [tbo] at q
        | some e =>
          have he := nbr_lt hn (show m < n * n * n by omega) hw z
          have e64 : e < 64 := by omega
          have hye : tb y e = true := (hy e).mpr ⟨m, by omega, q, z⟩
          have ih2 := ih (by omega) (dif y (bit e)) (fun d => by
            rw [tb_dif, hy d]
            constructor
            · rintro ⟨⟨c, h1, h2, h3⟩, h4⟩
              rcases Nat.lt_or_ge c m with zz | zz
              · exact ⟨c, zz, h2, h3⟩
              · rw [show c = m by omega, z] at h3
                rw [← Option.some.inj h3, (tb_b e64).mpr rfl] at h4; cases h4
            · rintro ⟨c, h1, h2, h3⟩
              refine ⟨⟨c, by omega, h2, h3⟩, ?_⟩
              cases y2 : tb (bit e) d with
              | false => rfl
              | true =>
                rw [(tb_b e64).mp y2] at h3
                have b1 := nbr_back hn (show c < n * n * n by omega) hw h3
                have b2 := nbr_back hn (show m < n * n * n by omega) hw z
                rw [b1] at b2
                have := Option.some.inj b2
                omega)
          have hc : cnt y = cnt (dif y (bit e)) + 1 := by
            unfold cnt
            have hgen : ∀ k, e < k → ctN (tb y) k = ctN (tb (dif y (bit e))) k + 1 := by
              intro k
              induction k with
              | zero => intro h; omega
              | succ k ihk =>
                intro hk
                unfold ctN
                by_cases y3 : e = k
                · subst y3
                  have e1 : ctN (tb y) e = ctN (tb (dif y (bit e))) e := ctN_congr fun c hc => by
                    rw [Bool.eq_iff_iff, tb_dif]
                    refine ⟨fun u => ⟨u, ?_⟩, fun u => u.1⟩
                    cases y4 : tb (bit e) c with
                    | false => rfl
                    | true => have := (tb_b e64).mp y4; omega
                  have e2 : tb (dif y (bit e)) e = false := by
                    cases y4 : tb (dif y (bit e)) e with
                    | false => rfl
                    | true =>
                      have := (tb_dif.mp y4).2
                      rw [(tb_b e64).mpr rfl] at this; cases this
                  rw [e1, hye, e2]
                  simp
                · rw [ihk (by omega)]
                  have e2 : tb y k = tb (dif y (bit e)) k := by
                    rw [Bool.eq_iff_iff, tb_dif]
                    refine ⟨fun u => ⟨u, ?_⟩, fun u => u.1⟩
                    cases y4 : tb (bit e) k with
                    | false => rfl
                    | true => have := (tb_b e64).mp y4; omega
                  rw [e2]
                  omega
            exact hgen 64 e64
          rw [hc, ih2]
  refine swap (n * n * n) (Nat.le_refl _) _ (fun d => ?_)
  rw [tb_and, Bool.and_eq_true, tb_shf hn, Bool.and_eq_true, decide_eq_true_iff]
  constructor
  · rintro ⟨⟨h1, h2⟩, h3⟩
    cases q : nbr n d (w ^^^ 1) with
    | none => rw [q] at h2; simp [tbo] at h2
    | some c =>
      rw [q] at h2
      have h2' : tb x c = true := h2
      have hc := nbr_lt hn h1 (xor11 w hw).2 q
      have hb := nbr_back hn h1 (xor11 w hw).2 q
      rw [(xor11 w hw).1] at hb
      refine ⟨c, hc, ?_, hb⟩
      rw [hb, h2']
      exact h3
  · rintro ⟨c, h1, h2, h3⟩
    rw [h3, Bool.and_eq_true] at h2
    have hb := nbr_back hn h1 hw h3
    refine ⟨⟨nbr_lt hn h1 hw h3, ?_⟩, h2.2⟩
    rw [hb]
    exact h2.1
theorem fc_sw {n : Nat} (hn : Sz n) {x fig : Int64} : ∀ m, m ≤ 6 → fcW n x fig m = smF (fun c => fcF n x fig c m) (n * n * n)
  | 0, _ => by
    have : ∀ k, smF (fun _ => 0) k = 0 := by
      intro k
      induction k with
      | zero => rfl
      | succ k ih => show smF (fun _ => 0) k + 0 = 0; rw [ih]
    show 0 = smF (fun c => 0) (n * n * n)
    rw [this]
  | m + 1, hm => by
    show fcW n x fig m + cnt (shf n m x &&& fig) = smF (fun c => fcF n x fig c m + (if tb x c && tbo fig (nbr n c m) then 1 else 0)) (n * n * n)
    rw [fc_sw hn m (by omega), cnt_bij hn (by omega), smF_add]
theorem X2_faces {σ : q_M} {k n i : Nat} {x fig : Int64} (B : Blk σ (k + 1) n) (hi : i < 8) (ex : σ.2 (k + 5) i = x) (ef : σ.2 k 1 = fig) (hx : inB n x) : fX2_countFaces k (nI i) σ = some (nI (fcW n x fig 6), σ) := by
  unfold fX2_countFaces
  refine lq2 (fX2_countFaces_c4 k (nI i)) σ (fun w => nI (fcW n x fig w)) 6 _ (by decide) ?_ ?_
  · intro f w hw
    show fX2_countFaces_c4b k (nI i) (fX2_countFaces_c4 k (nI i) f) (nI (fcW n x fig w)) (nI w) σ = fX2_countFaces_c4 k (nI i) f (nI (fcW n x fig w + cnt (shf n w x &&& fig))) (nI (w + 1)) σ
    unfold fX2_countFaces_c4b
    rw [if_neg (show ¬ (6 : Int32) ≤ nI w from nI_ge (a := w) (b := 6) hw (by decide)), gd hi (by decide), nI_clamp (by omega), ex, X0_shifted B hw hx, bs, ef, J_bits, bs, nI_add, nI_1]
  · intro f
    show fX2_countFaces_c4b k (nI i) (fX2_countFaces_c4 k (nI i) f) (nI (fcW n x fig 6)) (nI 6) σ = _
    unfold fX2_countFaces_c4b
    rw [if_pos (show (6 : Int32) ≤ nI 6 by decide)]
theorem fcF_f {n : Nat} {x fig : Int64} {c : Nat} (h : tb x c = false) : ∀ w, fcF n x fig c w = 0
  | 0 => rfl
  | w + 1 => by
    show fcF n x fig c w + (if tb x c && tbo fig (nbr n c w) then 1 else 0) = 0
    rw [fcF_f h w, h]
    rfl
theorem M_faces {τ : q_M} {n i : Nat} (h : MN τ n) (hi : i < 8) : fX9_facesOf 0 (nI i) τ = some (nI (smF (fun c => fcF n (τ.2 11 i) (τ.2 0 12) c 6) (n * n * n)), τ) := by
  have hn := h.1
  have h64 := hn.cube
  have a0 : ∀ m, nI m + 0 = nI m := fun m => nI_add m 0
  have c15 : ∀ acc d, d < n * n * n → ∀ rec4, fX9_facesOf_c15 0 (nI i) rec4 q_FU (nI acc) (nI d) 0 τ = rec4 (nI (acc + fcF n (τ.2 11 i) (τ.2 0 12) d 6)) (nI (d + 1)) τ := by
    intro acc d hd rec4
    cases q : tb (τ.2 11 i) d with
    | false =>
      show fX9_facesOf_c15b 0 (nI i) rec4 (fX9_facesOf_c15 0 (nI i) rec4 399) (nI acc) (nI d) 0 τ = _
      unfold fX9_facesOf_c15b
      rw [gd hi (by decide), nI_clamp (show i < 2 ^ 31 by omega), show τ.2 (0 + 11) i = τ.2 11 i from rfl, M_hasF (by omega) q, bs, if_pos rfl, nI_1, fcF_f q]
      rfl
    | true =>
      refine lp_run (fun f (w : Nat) => fX9_facesOf_c15 0 (nI i) rec4 f (nI (acc + fcF n (τ.2 11 i) (τ.2 0 12) d w)) (nI d) (nI w) τ) id 6 _ ?_ ?_ q_FU (by decide)
      · intro f w hw
        show fX9_facesOf_c15b 0 (nI i) rec4 (fX9_facesOf_c15 0 (nI i) rec4 f) (nI (acc + fcF n (τ.2 11 i) (τ.2 0 12) d w)) (nI d) (nI w) τ = fX9_facesOf_c15 0 (nI i) rec4 f (nI (acc + (fcF n (τ.2 11 i) (τ.2 0 12) d w + (if tb (τ.2 11 i) d && tbo (τ.2 0 12) (nbr n d w) then 1 else 0)))) (nI d) (nI (w + 1)) τ
        unfold fX9_facesOf_c15b
        rw [gd hi (by decide), nI_clamp (show i < 2 ^ 31 by omega), show τ.2 (0 + 11) i = τ.2 11 i from rfl, M_hasT (by omega) q, bs, if_neg b1_ne, if_neg (show ¬ (6 : Int32) ≤ nI w from nI_ge (a := w) (b := 6) hw (by decide)), M_from h hd hw, bs, nI_1, a0, nI_1, q, Bool.true_and]
        cases z : nbr n d w with
        | none => rw [frm_none z, if_pos rfl]; rfl
        | some e =>
          have he := nbr_lt hn hd hw z
          rw [frm_some z, if_neg (nI_m1 e (by omega))]
          cases y : tb (τ.2 0 12) e with
          | false => rw [M_hasF (by omega) y, bs, if_pos rfl, if_neg (show ¬ tbo (τ.2 0 12) (some e) = true by show ¬ tb (τ.2 0 12) e = true; rw [y]; decide)]; rfl
          | true => rw [M_hasT (by omega) y, bs, if_neg b1_ne, if_pos (show tbo (τ.2 0 12) (some e) = true from y)]; rfl
      · intro f
        show fX9_facesOf_c15b 0 (nI i) rec4 (fX9_facesOf_c15 0 (nI i) rec4 f) (nI (acc + fcF n (τ.2 11 i) (τ.2 0 12) d 6)) (nI d) (nI 6) τ = _
        unfold fX9_facesOf_c15b
        rw [gd hi (by decide), nI_clamp (show i < 2 ^ 31 by omega), show τ.2 (0 + 11) i = τ.2 11 i from rfl, M_hasT (by omega) q, bs, if_neg b1_ne, if_pos (show (6 : Int32) ≤ nI 6 by decide), nI_1]
  unfold fX9_facesOf
  refine lq2 (fX9_facesOf_c4 0 (nI i)) τ (fun d => nI (smF (fun c => fcF n (τ.2 11 i) (τ.2 0 12) c 6) d)) (n * n * n) _ (by omega) ?_ ?_
  · intro f d hd
    show fX9_facesOf_c4b 0 (nI i) (fX9_facesOf_c4 0 (nI i) f) (nI (smF (fun c => fcF n (τ.2 11 i) (τ.2 0 12) c 6) d)) (nI d) τ = fX9_facesOf_c4 0 (nI i) f (nI (smF (fun c => fcF n (τ.2 11 i) (τ.2 0 12) c 6) d + fcF n (τ.2 11 i) (τ.2 0 12) d 6)) (nI (d + 1)) τ
    unfold fX9_facesOf_c4b
    rw [M_many h, bs, if_neg (nI_ge hd (by omega)), c15 _ d hd]
  · intro f
    show fX9_facesOf_c4b 0 (nI i) (fX9_facesOf_c4 0 (nI i) f) (nI (smF (fun c => fcF n (τ.2 11 i) (τ.2 0 12) c 6) (n * n * n))) (nI (n * n * n)) τ = _
    unfold fX9_facesOf_c4b
    rw [M_many h, bs, if_pos (nI_le (Nat.le_refl _) (by omega))]
theorem op_faces : Op_faces RR := by
  intro σ τ N x h
  have h0 := h
  obtain ⟨K, A, n, p, o, t, hR⟩ := h
  obtain ⟨h1, h2, h3, h4, h5, h6, h7, h8, h9, h10, h11, _⟩ := hR.2.1
  have hN : MN τ n := ⟨h1.1, h2⟩
  unfold fX8_faces fX9_faces
  rw [X8_isPiece h6, bs, M_isPiece h7 h5, bs]
  rcases isI_c x (p := p) (by omega) with q | ⟨j, hj, rfl⟩
  · rw [q, b1_f, if_pos rfl, if_pos rfl, X_bad, bs, M_bad, bs]
    exact ⟨_, _, _, rfl, rfl, RR_rf h0 (by decide)⟩
  · rw [isI_y hj (by omega), b1_t, if_neg b1_ne, if_neg b1_ne, X2_faces (k := 1) h1 (by omega) (h11 j hj).1 h3 (h11 j hj).2, bs, M_faces hN (by omega), bs, fc_sw h1.1 6 (Nat.le_refl _)]
    exact ⟨_, _, _, rfl, rfl, h0⟩
def mxF (f : Nat → Nat) (off : Nat → Bool) : Nat → Nat
  | 0 => 0
  | i + 1 => if off i then mxF f off i else if mxF f off i < f i then f i else mxF f off i
theorem op_casts : Op_casts RR := by
  intro σ τ N h
  have h0 := h
  obtain ⟨K, A, n, p, o, t, hR⟩ := h
  obtain ⟨h1, h2, h3, h4, h5, h6, h7, h8, h9, h10, h11, ⟨u, u1, u2, u3, u4⟩, ⟨w, w1, w2, w3, w4⟩, h14, h15⟩ := hR.2.1
  have hN : MN τ n := ⟨h1.1, h2⟩
  have o256 := p256 h8 h5
  have h64 := h1.1.cube
  let F : Nat → Nat := fun i => smF (fun c => fcF n (τ.2 11 i) (τ.2 0 12) c 6) (n * n * n)
  have fb : ∀ i c w, fcF n (τ.2 11 i) (τ.2 0 12) c w ≤ w := by
    intro i c w
    induction w with
    | zero => exact Nat.le_refl _
    | succ w ih =>
      show fcF n (τ.2 11 i) (τ.2 0 12) c w + _ ≤ w + 1
      split <;> omega
  have Fb : ∀ i, F i < 2 ^ 31 := fun i => by
    have : F i ≤ 6 * (n * n * n) := smF_le fun c _ => fb i c 6
    omega
  have Mb : ∀ k, mxF F (fun i => o.testBit i) k < 2 ^ 31 := by
    intro k
    induction k with
    | zero =>
      show 0 < 2 ^ 31
      decide
    | succ k ih =>
      unfold mxF
      split
      · exact ih
      · split
        · exact Fb k
        · exact ih
  let res : Int32 := if nI (mxF F (fun i => o.testBit i) p) = 0 then 999 else nI w / nI (mxF F (fun i => o.testBit i) p)
  refine ⟨res, σ, τ, ?_, ?_, h0⟩
  · unfold fX8_casts
    refine lq2 fX8_casts_c4 σ (fun i => nI (mxF F (fun i => o.testBit i) i)) p _ (by omega) ?_ ?_
    · intro f i hi
      show fX8_casts_c4b (fX8_casts_c4 f) (nI (mxF F (fun i => o.testBit i) i)) (nI i) σ = fX8_casts_c4 f (nI (if o.testBit i then mxF F (fun i => o.testBit i) i else if mxF F (fun i => o.testBit i) i < F i then F i else mxF F (fun i => o.testBit i) i)) (nI (i + 1)) σ
      unfold fX8_casts_c4b
      rw [h6, if_neg (nI_ge hi (by omega)), X2_isOff h9 o256 (by omega), bs, nI_1]
      cases o.testBit i with
      | true => rw [b1_t, if_neg b1_ne, if_pos rfl]
      | false =>
        rw [b1_f, if_pos rfl, X2_faces (k := 1) h1 (by omega) (h11 i hi).1 h3 (h11 i hi).2, bs, ql, fc_sw h1.1 6 (Nat.le_refl _), if_neg (show ¬ (false = true) by decide)]
        show fX8_casts_c4 f (if nI (mxF F (fun i => o.testBit i) i) < nI (F i) then nI (F i) else nI (mxF F (fun i => o.testBit i) i)) (nI (i + 1)) σ = _
        by_cases z : mxF F (fun i => o.testBit i) i < F i
        · rw [if_pos (nI_lt z (Fb i)), if_pos z]
        · rw [if_neg (nI_nlt (by omega) (Mb i)), if_neg z]
    · intro f
      show fX8_casts_c4b (fX8_casts_c4 f) (nI (mxF F (fun i => o.testBit i) p)) (nI p) σ = some (if nI (mxF F (fun i => o.testBit i) p) = 0 then 999 else nI w / nI (mxF F (fun i => o.testBit i) p), σ)
      unfold fX8_casts_c4b
      rw [h6, if_pos (nI_le (Nat.le_refl _) (by omega)), w3]
      by_cases z : nI (mxF F (fun i => o.testBit i) p) = 0
      · rw [if_pos z, if_pos z]
      · rw [if_neg z, if_pos z, if_neg z]
  · unfold fX9_casts
    refine lq2 (fX9_casts_c4 0) τ (fun i => nI (mxF F (fun i => o.testBit i) i)) p _ (by omega) ?_ ?_
    · intro f i hi
      show fX9_casts_c4b 0 (fX9_casts_c4 0 f) (nI (mxF F (fun i => o.testBit i) i)) (nI i) τ = fX9_casts_c4 0 f (nI (if o.testBit i then mxF F (fun i => o.testBit i) i else if mxF F (fun i => o.testBit i) i < F i then F i else mxF F (fun i => o.testBit i) i)) (nI (i + 1)) τ
      unfold fX9_casts_c4b
      rw [h7, if_neg (nI_ge hi (by omega)), M_isOff h10 o256 (by omega), bs]
      cases o.testBit i with
      | true =>
        rw [b1_t, if_neg b1_ne, if_pos rfl]
        unfold fX9_casts_c29
        rw [if_pos (show (0 : Int32) ≤ nI (mxF F (fun i => o.testBit i) i) from nI_pos' (Mb i)), nI_1]
      | false =>
        rw [b1_f, if_pos rfl, M_faces hN (by omega), bs, if_neg (show ¬ (false = true) by decide)]
        unfold fX9_casts_c29
        rw [nI_1]
        show (if nI (F i) ≤ nI (mxF F (fun i => o.testBit i) i) then fX9_casts_c4 0 f (nI (mxF F (fun i => o.testBit i) i)) (nI (i + 1)) τ else fX9_casts_c4 0 f (nI (F i)) (nI (i + 1)) τ) = _
        by_cases z : mxF F (fun i => o.testBit i) i < F i
        · rw [if_neg (nI_ge z (Fb i)), if_pos z]
        · rw [if_pos (nI_le (by omega) (Mb i)), if_neg z]
    · intro f
      show fX9_casts_c4b 0 (fX9_casts_c4 0 f) (nI (mxF F (fun i => o.testBit i) p)) (nI p) τ = some (if nI (mxF F (fun i => o.testBit i) p) = 0 then 999 else nI w / nI (mxF F (fun i => o.testBit i) p), τ)
      unfold fX9_casts_c4b
      rw [h7, if_pos (nI_le (Nat.le_refl _) (by omega)), w4]
      by_cases z : nI (mxF F (fun i => o.testBit i) p) = 0
      · rw [if_pos z, if_pos z]
      · rw [if_neg z, if_pos z, if_neg z]
