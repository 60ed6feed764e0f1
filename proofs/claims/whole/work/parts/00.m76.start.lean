/-! The start. -/
def mMo (σB : q_M) : q_M := (fun k => match k with | 0 => (fun j => if j = 4 then 64 else if j = 5 then 100 else 0) | 1 => σB.1 0 | 2 => σB.1 1 | _ => fun _ => 0, fun k => match k with | 1 => σB.2 0 | 3 => σB.2 2 | 4 => σB.2 3 | 6 => vp_updL (fun _ => 0) 0 (σB.2 0 2) | _ => fun _ => 0)
def sX (σB : q_M) : q_M := (fun k => if k < 1 then (fun _ => 0) else if k < 8 then (mMo σB).1 (k - 1) else if k < 15 then (mMo σB).1 (k - 8) else if k < 22 then (mMo σB).1 (k - 15) else if k < 31 then (fun _ => 0) else if (k - 31) % 4 = 0 then (fun _ => -1) else if (k - 31) % 4 = 3 then (fun j => if j = 0 then 1 else 0) else (fun _ => 0),
  fun k => if k < 1 then (fun _ => 0) else if k < 8 then (mMo σB).2 (k - 1) else if k < 15 then (mMo σB).2 (k - 8) else if k < 22 then (mMo σB).2 (k - 15) else (fun _ => 0))
theorem ops_all {σ1 : q_M} (h19 : σ1.1 0 19 = 0) (h27 : σ1.1 0 27 = 0) : OpsAll σ1 RR := ⟨op_row, op_set, op_copy, op_element, op_holds, op_move, op_says, op_size, op_solid, op_figure, op_piece, op_alter, op_ask, op_feed, op_wipe, op_read h19 h27, op_cubes, op_setOf, op_whole, op_parts, op_free, op_comes, op_wrong, op_loose, op_bars, op_order, op_ring, op_serves, op_fewest, op_parted, op_hidden, op_make, op_halves, op_line, op_cut, op_best, op_helps, op_slide, op_tunnels, op_needed, op_alike, op_mirror, op_turn, op_thin, op_spare, op_grow, op_faces, op_casts, op_step, op_again, op_image h19 h27, op_back, op_status⟩
theorem sX_blk {σB : q_M} (B : Blk σB 0 3) {k : Nat} (hk : k = 2 ∨ k = 9 ∨ k = 16) : Blk (sX σB) k 3 := by
  obtain ⟨b1, b2, b3, b4, b5, b6, b7⟩ := B
  rcases hk with rfl | rfl | rfl
  · exact ⟨b1, b2, b3, b4, b5, b6, b7⟩
  · exact ⟨b1, b2, b3, b4, b5, b6, b7⟩
  · exact ⟨b1, b2, b3, b4, b5, b6, b7⟩
theorem start_rel {σB σ1 : q_M} (B : Blk σB 0 3) (s1 : ag (fun c _ => c ≠ 0 + 12) m_0 σ1) (s2 : σ1.2 = m_0.2) (s3 : ∀ c, c < 64 → σ1.1 (0 + 12) c = 1) : RR (sX σB) σ1 29 := by
  have hn : Sz 3 := B.1
  have sh0 : (sX σB).2 7 0 = allL 3 := B.2.2.2.1
  have sh1 : ∀ i, i < 4 → i ≠ 0 → (sX σB).2 7 i = 0 := fun i hi h0 => by
    rcases (show i = 1 ∨ i = 2 ∨ i = 3 by omega) with rfl | rfl | rfl <;> rfl
  have e := fun c j (h : c ≠ 0 + 12) => (s1 c j h).1
  refine ⟨0, 0, 3, 0, 0, 0, ⟨?_, ?_, Or.inl rfl, Or.inl rfl, fun z => absurd rfl z, rfl, fun k hk hk2 hk0 => by omega⟩, ⟨sX_blk B (Or.inl rfl), ?_, ?_, ?_, by decide, rfl, ?_, by decide, rfl, ?_, fun i hi => by omega, ⟨64, by decide, by decide, rfl, ?_⟩, ⟨100, by decide, by decide, rfl, ?_⟩, ?_, ?_⟩, ⟨3, sX_blk B (Or.inr (Or.inl rfl))⟩, ⟨3, sX_blk B (Or.inr (Or.inr rfl))⟩, Or.inl ⟨rfl, rfl⟩, fun s hs => Or.inl ⟨?_, ?_⟩, fun i hi => ?_, ⟨by decide, rfl, ?_, fun i hi => by omega⟩⟩
  · rw [e 0 19 (by decide)]; rfl
  · rw [e 0 27 (by decide)]; rfl
  · rw [e 0 11 (by decide)]; rfl
  · rw [s2]; rfl
  · rw [s2]; exact inB_0 3
  · rw [e 0 13 (by decide)]; rfl
  · rw [e 0 15 (by decide)]; rfl
  · rw [e 0 17 (by decide)]; rfl
  · rw [e 0 18 (by decide)]; rfl
  · intro i hi
    show inB 3 ((sX σB).2 7 i)
    by_cases q : i = 0
    · rw [q, sh0]
      intro c hc
      rw [tb_allL hn, decide_eq_true_iff] at hc
      exact hc
    · rw [sh1 i hi q]; exact inB_0 3
  · intro c hc
    refine ⟨1, by decide, s3 c (by omega), fun i hi => ?_⟩
    show tb ((sX σB).2 7 i) c = _
    by_cases q : i = 0
    · rw [q, sh0, tb_allL hn, decide_eq_true hc]; rfl
    · rw [sh1 i hi q, tb_0]
      exact ((by decide +kernel : ∀ i, i < 4 → i ≠ 0 → (1 : Nat).testBit i = false) i hi q).symm
  · show (if 31 + 4 * s < 1 then (fun _ => 0) else if 31 + 4 * s < 8 then (mMo σB).1 (31 + 4 * s - 1) else if 31 + 4 * s < 15 then (mMo σB).1 (31 + 4 * s - 8) else if 31 + 4 * s < 22 then (mMo σB).1 (31 + 4 * s - 15) else if 31 + 4 * s < 31 then (fun _ => 0) else if (31 + 4 * s - 31) % 4 = 0 then (fun _ => -1) else if (31 + 4 * s - 31) % 4 = 3 then (fun j => if j = 0 then 1 else 0) else (fun _ => 0) : Nat → Int32) 0 = -1
    rw [if_neg (by omega), if_neg (by omega), if_neg (by omega), if_neg (by omega), if_neg (by omega), if_pos (by omega)]
  · rw [e 1 s (by decide)]; rfl
  · rw [e 10 (i + 2) (by decide)]; rfl
  · rw [e 0 9 (by decide)]; rfl
