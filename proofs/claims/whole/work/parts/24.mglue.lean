/-! The reference's objects come one by one: worlds joined. -/
def glA (ad a1 : Nat → Nat) (N : Nat) : Nat → Nat := fun k => if k < N then ad k else a1 (k - N)
theorem c_like {D : va_G} {tys : List (ClassId × FieldType)} {adK adV : Nat → Nat} {A : Nat → Prop} {s : State} {w w' : va_W} {H : Heap} {locs : List Loc} (hw : c_H D tys adK adV A s w H locs) (hl : w'.length = w.length) (h : ∀ (k : Nat) (x x' : Nat × va_E), w[k]? = some x → w'[k]? = some x' → x'.1 = x.1 ∧ (va_at D vwCl x H → va_at D vwCl x' H)) : c_H D tys adK adV A s w' H locs := by
  have at' : ∀ (k : Nat) (x' : Nat × va_E), w'[k]? = some x' → ∃ x, w[k]? = some x ∧ x'.1 = x.1 ∧ (va_at D vwCl x H → va_at D vwCl x' H) := by
    intro k x' hx
    have hk := (List.getElem?_eq_some_iff.mp hx).1
    have hk2 : k < w.length := by omega
    exact ⟨w[k], List.getElem?_eq_getElem hk2, h k _ x' (List.getElem?_eq_getElem hk2) hx⟩
  refine ⟨hw.1, fun k x hx => ?_, ⟨fun i j x y hi hj hxy => ?_, fun k x hx => ?_⟩, hw.2.2.2⟩
  · obtain ⟨x0, h1, -, h3⟩ := at' k x hx
    exact h3 (hw.2.1 k x0 h1)
  · obtain ⟨x0, h1, h2, -⟩ := at' i x hi
    obtain ⟨y0, h4, h5, -⟩ := at' j y hj
    exact hw.2.2.1.1 i j x0 y0 h1 h4 (by rw [← h2, ← h5]; exact hxy)
  · obtain ⟨x0, h1, h2, -⟩ := at' k x hx
    rw [h2]
    exact hw.2.2.1.2 k x0 h1
theorem mE_cong {cI cJ cR : ClassId} {ad ad' : Nat → Nat} {k k' : Nat} {f : Nat → Int32} {h : Nat → Int64} (hk : k' % 29 = k % 29) (h0 : k % 29 ≠ 0) (h4 : k % 29 ≠ 4) : mE cI cJ cR ad' k' f h = mE cI cJ cR ad k f h := by
  unfold mE
  rw [hk]
  generalize k % 29 = r at h0 h4 ⊢
  match r with
  | 0 => exact absurd rfl h0
  | 4 => exact absurd rfl h4
  | 1 => rfl
  | 2 => rfl
  | 3 => rfl
  | 5 => rfl
  | 6 => rfl
  | 7 => rfl
  | 8 => rfl
  | 9 => rfl
  | 10 => rfl
  | 11 => rfl
  | 12 => rfl
  | 13 => rfl
  | 14 => rfl
  | 15 => rfl
  | 16 => rfl
  | 17 => rfl
  | 18 => rfl
  | 19 => rfl
  | 20 => rfl
  | r + 21 => rfl
theorem mE_cong0 {cI cJ cR : ClassId} {ad ad' : Nat → Nat} {k k' : Nat} {f : Nat → Int32} {h : Nat → Int64} (hk : k % 29 = 0) (hk' : k' % 29 = 0) (ha : ∀ i, 1 ≤ i → i < 29 → ad' (k' + i) = ad (k + i)) (h19 : mRn ad' (f 19) = mRn ad (f 19)) (h27 : mRn ad' (f 27) = mRn ad (f 27)) : mE cI cJ cR ad' k' f h = mE cI cJ cR ad k f h := by
  unfold mE
  rw [hk, hk']
  show (Sum.inr (8, _) : va_E) = Sum.inr (8, _)
  rw [h19, h27, ha 1 (by decide) (by decide), ha 2 (by decide) (by decide), ha 3 (by decide) (by decide), ha 4 (by decide) (by decide), ha 5 (by decide) (by decide), ha 6 (by decide) (by decide), ha 7 (by decide) (by decide), ha 8 (by decide) (by decide), ha 9 (by decide) (by decide), ha 10 (by decide) (by decide), ha 11 (by decide) (by decide), ha 12 (by decide) (by decide), ha 13 (by decide) (by decide), ha 14 (by decide) (by decide), ha 15 (by decide) (by decide), ha 16 (by decide) (by decide), ha 17 (by decide) (by decide), ha 18 (by decide) (by decide), ha 19 (by decide) (by decide), ha 20 (by decide) (by decide)]
theorem mE_at4 {D : va_G} {cI cJ cR : ClassId} {ad ad' : Nat → Nat} {k k' a : Nat} {f : Nat → Int32} {h : Nat → Int64} {H : Heap} (hk : k % 29 = 4) (hk' : k' % 29 = 4) (ha : ∀ i, i < 8 → ad' (k' + 17 + i) = ad (k + 17 + i)) (hat : va_at D vwCl (a, mE cI cJ cR ad k f h) H) : va_at D vwCl (a, mE cI cJ cR ad' k' f h) H := by
  have e1 : mE cI cJ cR ad k f h = .inl (cR, 8, .inr (.inr (.inr (.inr (fun i => some (ad (k + 17 + i))))))) := by simp only [mE, hk]
  have e2 : mE cI cJ cR ad' k' f h = .inl (cR, 8, .inr (.inr (.inr (.inr (fun i => some (ad' (k' + 17 + i))))))) := by simp only [mE, hk']
  rw [e1] at hat
  rw [e2]
  have h1 : H[a]? = some (vp_cell cR (8, .inr (.inr (.inr (.inr (fun i => some (ad (k + 17 + i)))))))) := hat
  show H[a]? = some (vp_cell cR (8, .inr (.inr (.inr (.inr (fun i => some (ad' (k' + 17 + i))))))))
  rw [h1, vp_cell_q, vp_cell_q]
  congr 1
  exact arrV_congr (fun j hj => by rw [ha j hj])
theorem mRn_gl {ad a1 : Nat → Nat} {N : Nat} {x : Int32} (h : x = 0 ∨ x.toNatClampNeg < N) : mRn (glA ad a1 N) x = mRn ad x := by
  unfold mRn
  by_cases h0 : x = 0
  · rw [if_pos h0, if_pos h0]
  · rw [if_neg h0, if_neg h0]
    rcases h with h | h
    · exact absurd h h0
    · simp [glA, h]
theorem mRn_0 {ad : Nat → Nat} {x : Int32} (h : x = 0) : mRn ad x = .null := if_pos h
theorem mRn_nI {ad : Nat → Nat} {b : Nat} (h0 : b ≠ 0) (hb : b < 2 ^ 31) : mRn ad (nI b) = .ref (ad b) := by
  unfold mRn
  rw [if_neg (nI_ne0 (by omega) hb), nI_clamp hb]
theorem m_glue {D : va_G} {cI cJ cR : ClassId} {ad a1 adK adV : Nat → Nat} {N : Nat} {σ σ1 : q_M} {A : Nat → Prop} {s : State} {H : Heap} {locs : List Loc} (hN : N % 29 = 0) (hv : mV N σ) (h19 : σ1.1 0 19 = 0) (h27 : σ1.1 0 27 = 0)
    (hw : c_H D (tyM_ cI cJ cR) adK adV A s (q_ws (gM D cI cJ cR ad adK adV N) σ ++ q_ws (gM D cI cJ cR a1 adK adV 29) σ1) H locs) : q_H (gM D cI cJ cR (glA ad a1 N) adK adV (N + 29)) A s (glM σ σ1 N) H locs := by
  have hl0 : (q_ws (gM D cI cJ cR ad adK adV N) σ).length = N := by simp [q_ws]
  refine c_like hw (by simp [q_ws]) ?_
  intro k x x' hx hx'
  obtain ⟨hk, rfl⟩ := q_ws_in hx'
  have hk : k < N + 29 := hk
  by_cases hkN : k < N
  · rw [List.getElem?_append_left (by rw [hl0]; exact hkN), q_ws_at (by exact hkN)] at hx
    cases hx
    have ea : glA ad a1 N k = ad k := by simp [glA, hkN]
    refine ⟨ea, fun hat => ?_⟩
    show va_at D vwCl (glA ad a1 N k, mE cI cJ cR (glA ad a1 N) k ((glM σ σ1 N).1 k) ((glM σ σ1 N).2 k)) H
    have e1 : (glM σ σ1 N).1 k = σ.1 k := by simp [glM, hkN]
    have e2 : (glM σ σ1 N).2 k = σ.2 k := by simp [glM, hkN]
    rw [ea, e1, e2]
    have hat : va_at D vwCl (ad k, mE cI cJ cR ad k (σ.1 k) (σ.2 k)) H := hat
    by_cases h0 : k % 29 = 0
    · rw [mE_cong0 (ad := ad) (k := k) h0 h0 (fun i _ hi => by simp [glA, show k + i < N by omega]) (mRn_gl (hv k hkN h0).1) (mRn_gl (hv k hkN h0).2)]
      exact hat
    · by_cases h4 : k % 29 = 4
      · exact mE_at4 h4 h4 (fun i hi => by simp [glA, show k + 17 + i < N by omega]) hat
      · rw [mE_cong (ad := ad) (k := k) rfl h0 h4]
        exact hat
  · obtain ⟨j, rfl⟩ : ∃ j, k = N + j := ⟨k - N, by omega⟩
    have hj : j < 29 := by omega
    rw [List.getElem?_append_right (by rw [hl0]; omega), hl0, Nat.add_sub_cancel_left, q_ws_at (by exact hj)] at hx
    cases hx
    have ea : glA ad a1 N (N + j) = a1 j := by simp [glA, hkN]
    refine ⟨ea, fun hat => ?_⟩
    show va_at D vwCl (glA ad a1 N (N + j), mE cI cJ cR (glA ad a1 N) (N + j) ((glM σ σ1 N).1 (N + j)) ((glM σ σ1 N).2 (N + j))) H
    have e1 : (glM σ σ1 N).1 (N + j) = σ1.1 j := by simp [glM, hkN]
    have e2 : (glM σ σ1 N).2 (N + j) = σ1.2 j := by simp [glM, hkN]
    rw [ea, e1, e2]
    have hat : va_at D vwCl (a1 j, mE cI cJ cR a1 j (σ1.1 j) (σ1.2 j)) H := hat
    by_cases h0 : j = 0
    · subst h0
      rw [mE_cong0 (ad := a1) (k := 0) rfl (by omega) (fun i _ hi => by unfold glA; rw [if_neg (by omega)]; congr 1; omega) (by rw [mRn_0 h19, mRn_0 h19]) (by rw [mRn_0 h27, mRn_0 h27])]
      exact hat
    · by_cases h4 : j = 4
      · subst h4
        exact mE_at4 rfl (by omega) (fun i hi => by unfold glA; rw [if_neg (by omega)]; congr 1; omega) hat
      · rw [mE_cong (ad := a1) (k := j) (k' := N + j) (by omega) (by omega) (by omega)]
        exact hat
