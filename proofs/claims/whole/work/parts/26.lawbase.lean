/-! The law's world: the class's object and the reference's, side by side. -/
abbrev tyL_ (cI cJ cS cR : ClassId) : List (ClassId × FieldType) := [(cI, .int), (cJ, .long), (cS, .object "MouldThatComesOff$Shelf"), (cR, .array .long)]
def l_H (D : va_G) (cI cJ cS cR : ClassId) (adX adM adK adV : Nat → Nat) (N : Nat) (A : Nat → Prop) (s : State) (σ τ : q_M) (H : Heap) (locs : List Loc) : Prop :=
  c_H D (tyL_ cI cJ cS cR) adK adV A s (q_ws (gX D cI cJ cS adX adK adV) σ ++ q_ws (gM D cI cJ cR adM adK adV N) τ) H locs ∧ va_AOA .long s
theorem app_l {α : Type} {a b : List α} {k : Nat} {x : α} (h : a[k]? = some x) : (a ++ b)[k]? = some x := by
  rw [List.getElem?_append_left (List.getElem?_eq_some_iff.mp h).1]; exact h
theorem app_r {α : Type} {a b : List α} {k : Nat} {x : α} (h : b[k]? = some x) : (a ++ b)[a.length + k]? = some x := by
  rw [List.getElem?_append_right (by omega), Nat.add_sub_cancel_left]; exact h
theorem l_X {D : va_G} {cI cJ cS cR : ClassId} {adX adM adK adV : Nat → Nat} {N : Nat} {A : Nat → Prop} {s : State} {σ τ : q_M} {H : Heap} {locs : List Loc} (hw : l_H D cI cJ cS cR adX adM adK adV N A s σ τ H locs) : q_H (gX D cI cJ cS adX adK adV) A s σ H locs :=
  ⟨hw.1.1.sub [0, 1, 2] rfl, fun k q h => hw.1.2.1 k q (app_l h), ⟨fun i j x y hi hj e => hw.1.2.2.1.1 i j x y (app_l hi) (app_l hj) e, fun k q h => hw.1.2.2.1.2 k q (app_l h)⟩, hw.1.2.2.2.1, hw.1.2.2.2.2.1, hw.1.2.2.2.2.2⟩
theorem l_M {D : va_G} {cI cJ cS cR : ClassId} {adX adM adK adV : Nat → Nat} {N : Nat} {A : Nat → Prop} {s : State} {σ τ : q_M} {H : Heap} {locs : List Loc} (hw : l_H D cI cJ cS cR adX adM adK adV N A s σ τ H locs) : q_H (gM D cI cJ cR adM adK adV N) A s τ H locs :=
  ⟨hw.1.1.sub [0, 1, 3] rfl, fun k q h => hw.1.2.1 _ q (app_r h), ⟨fun i j x y hi hj e => by have := hw.1.2.2.1.1 _ _ x y (app_r hi) (app_r hj) e; omega, fun k q h => hw.1.2.2.1.2 _ q (app_r h)⟩, hw.1.2.2.2.1, hw.1.2.2.2.2.1, hw.1.2.2.2.2.2⟩
/-- one side changes, the other stays -/
theorem l_frame {D : va_G} {cl : List vw_C} {A Aa : Nat → Prop} {wa wa' wb : va_W} {H H1 : Heap} (hPb : va_P D cl wb H) (hDb : va_D A wb) (hap : ∀ (i j : Nat) (x y : Nat × va_E), wa[i]? = some x → wb[j]? = some y → x.1 ≠ y.1) (hAa : ∀ q, Aa q → (∃ (k : Nat) (e : va_E), wa[k]? = some (q, e)) ∨ H.size ≤ q) (hk : ∀ q : Nat, q < H.size → ¬ Aa q → H1[q]? = H[q]?) (hD1 : va_D Aa wa') :
    va_P D cl wb H1 ∧ ∀ (i j : Nat) (x y : Nat × va_E), wa'[i]? = some x → wb[j]? = some y → x.1 ≠ y.1 := by
  have out : ∀ (j : Nat) (y : Nat × va_E), wb[j]? = some y → y.1 < H.size ∧ ¬ Aa y.1 := fun j y hy => by
    have hl := (hPb j y hy).lt
    refine ⟨hl, fun z => ?_⟩
    rcases hAa _ z with ⟨k, e, h⟩ | h
    · exact hap k j _ y h hy rfl
    · omega
  exact ⟨fun j y hy => (hPb j y hy).kept (hk y.1 (out j y hy).1 (out j y hy).2), fun i j x y hx hy e => (out j y hy).2 (by rw [← e]; exact hD1.2 i x hx)⟩
theorem q_A_of {g : q_G} {σ : q_M} {sz : Nat} : ∀ q, q_A g sz q → (∃ (k : Nat) (e : va_E), (q_ws g σ)[k]? = some (q, e)) ∨ sz ≤ q := by
  intro q h
  rcases h with ⟨k, hk, rfl⟩ | h
  · exact Or.inl ⟨k, _, q_ws_at hk⟩
  · exact Or.inr h
theorem l_apart {D : va_G} {cI cJ cS cR : ClassId} {adX adM adK adV : Nat → Nat} {N : Nat} {A : Nat → Prop} {s : State} {σ τ : q_M} {H : Heap} {locs : List Loc} (hw : l_H D cI cJ cS cR adX adM adK adV N A s σ τ H locs) : ∀ (i j : Nat) (x y : Nat × va_E), (q_ws (gX D cI cJ cS adX adK adV) σ)[i]? = some x → (q_ws (gM D cI cJ cR adM adK adV N) τ)[j]? = some y → x.1 ≠ y.1 := by
  intro i j x y hx hy e
  have h := hw.1.2.2.1.1 i _ x y (app_l hx) (app_r hy) e
  have := (List.getElem?_eq_some_iff.mp hx).1
  omega
section LW
variable {p : Program} {l : Launch} {e : Env} {R : Room} {s : State} {m : MethodId} {args : Array Value} {below : List Frame} {meth : Method} {c : Code} {H : Heap} {locs : List Loc} {cells slots : Nat} {Q : State → Prop}
variable {pc : Nat} {rest st0 : List Value} {ls : Array Slot} {a : Array Value}
variable {D : va_G} {cI cJ cS cR : ClassId} {adX adM adK adV : Nat → Nat} {N : Nat} {A : Nat → Prop} {σ τ : q_M}
theorem l_afterX {σ' : q_M} {t : State} {H1 : Heap} {locs1 : List Loc} (hw : l_H D cI cJ cS cR adX adM adK adV N A s σ τ H locs) (ht : t.heap = H1) (hB : q_Post (gX D cI cJ cS adX adK adV) (q_A (gX D cI cJ cS adX adK adV) H.size) σ' t) (hk : ∀ q : Nat, q < H.size → ¬ q_A (gX D cI cJ cS adX adK adV) H.size q → H1[q]? = H[q]?) (hS : va_S A s.heap H1 locs1) : l_H D cI cJ cS cR adX adM adK adV N A s σ' τ H1 locs1 := by
  obtain ⟨h1, h2, h3⟩ := hB
  rw [ht] at h1
  have hM := l_M hw
  obtain ⟨g1, g2⟩ := l_frame hM.2.1 hM.2.2.1 (l_apart hw) (q_A_of (σ := σ)) hk h3
  exact ⟨⟨hw.1.1, va_P.app h1 g1, va_D.app (h3.weaken (fun k q _ h => q_A_sub (l_X hw) _ h)) hM.2.2.1 (fun i j x y hx hy e => g2 i j x y hx hy e), hS, hw.1.2.2.2.2⟩, hw.2⟩
theorem l_afterM {τ' : q_M} {adM' : Nat → Nat} {N' : Nat} {t : State} {H1 : Heap} {locs1 : List Loc} (hw : l_H D cI cJ cS cR adX adM adK adV N A s σ τ H locs) (ht : t.heap = H1) (hB : q_Post (gM D cI cJ cR adM' adK adV N') (q_A (gM D cI cJ cR adM adK adV N) H.size) τ' t) (hk : ∀ q : Nat, q < H.size → ¬ q_A (gM D cI cJ cR adM adK adV N) H.size q → H1[q]? = H[q]?) (hS : va_S A s.heap H1 locs1) : l_H D cI cJ cS cR adX adM' adK adV N' A s σ τ' H1 locs1 := by
  obtain ⟨h1, h2, h3⟩ := hB
  rw [ht] at h1
  have hXw := l_X hw
  obtain ⟨g1, g2⟩ := l_frame hXw.2.1 hXw.2.2.1 (fun i j x y hx hy e => l_apart hw j i y x hy hx e.symm) (q_A_of (σ := τ)) hk h3
  exact ⟨⟨hw.1.1, va_P.app g1 h1, va_D.app hXw.2.2.1 (h3.weaken (fun k q _ h => q_A_sub (l_M hw) _ h)) (fun i j x y hx hy e => g2 j i y x hy hx e.symm), hS, hw.1.2.2.2.2⟩, hw.2⟩
theorem l_callXi {out : Int32 × q_M} (hw : l_H D cI cJ cS cR adX adM adK adV N A s σ τ H locs) (hr : va_Run p l e R s m args below meth c H locs cells slots 0 0 (F0 m pc ls st0) rest (q_Ri (gX D cI cJ cS adX adK adV) (q_A (gX D cI cJ cS adX adK adV) H.size) out a) (q_A (gX D cI cJ cS adX adK adV) H.size))
    (kk : ∀ (H1 : Heap) (locs1 : List Loc), l_H D cI cJ cS cR adX adM adK adV N A s out.2 τ H1 locs1 → W p l e R s m args below meth c H1 locs1 cells slots Q (F0 m (pc + 3) ls (.int out.1 :: rest))) : W p l e R s m args below meth c H locs cells slots Q (F0 m pc ls st0) :=
  va_calli hr hw.1.2.2.2.1 (fun q _ h => q_A_sub (l_X hw) q h) (q_A_sub (l_X hw)) (fun r u t H1 locs1 ht hvm hp hB _ hk hS => by
    cases hp
    exact kk H1 locs1 (l_afterX hw ht hB hk hS))
theorem l_callXl {out : Int64 × q_M} (hw : l_H D cI cJ cS cR adX adM adK adV N A s σ τ H locs) (hr : va_Run p l e R s m args below meth c H locs cells slots 0 0 (F0 m pc ls st0) rest (q_Rl (gX D cI cJ cS adX adK adV) (q_A (gX D cI cJ cS adX adK adV) H.size) out a) (q_A (gX D cI cJ cS adX adK adV) H.size))
    (kk : ∀ (H1 : Heap) (locs1 : List Loc), l_H D cI cJ cS cR adX adM adK adV N A s out.2 τ H1 locs1 → W p l e R s m args below meth c H1 locs1 cells slots Q (F0 m (pc + 3) ls (.long out.1 :: rest))) : W p l e R s m args below meth c H locs cells slots Q (F0 m pc ls st0) :=
  va_calll hr hw.1.2.2.2.1 (fun q _ h => q_A_sub (l_X hw) q h) (q_A_sub (l_X hw)) (fun r u t H1 locs1 ht hvm hp hB _ hk hS => by
    cases hp
    exact kk H1 locs1 (l_afterX hw ht hB hk hS))
theorem l_callMi {out : Int32 × q_M} (hw : l_H D cI cJ cS cR adX adM adK adV N A s σ τ H locs) (hr : va_Run p l e R s m args below meth c H locs cells slots 0 0 (F0 m pc ls st0) rest (q_Ri (gM D cI cJ cR adM adK adV N) (q_A (gM D cI cJ cR adM adK adV N) H.size) out a) (q_A (gM D cI cJ cR adM adK adV N) H.size))
    (kk : ∀ (H1 : Heap) (locs1 : List Loc), l_H D cI cJ cS cR adX adM adK adV N A s σ out.2 H1 locs1 → W p l e R s m args below meth c H1 locs1 cells slots Q (F0 m (pc + 3) ls (.int out.1 :: rest))) : W p l e R s m args below meth c H locs cells slots Q (F0 m pc ls st0) :=
  va_calli hr hw.1.2.2.2.1 (fun q _ h => q_A_sub (l_M hw) q h) (q_A_sub (l_M hw)) (fun r u t H1 locs1 ht hvm hp hB _ hk hS => by
    cases hp
    exact kk H1 locs1 (l_afterM hw ht hB hk hS))
theorem l_callMl {out : Int64 × q_M} (hw : l_H D cI cJ cS cR adX adM adK adV N A s σ τ H locs) (hr : va_Run p l e R s m args below meth c H locs cells slots 0 0 (F0 m pc ls st0) rest (q_Rl (gM D cI cJ cR adM adK adV N) (q_A (gM D cI cJ cR adM adK adV N) H.size) out a) (q_A (gM D cI cJ cR adM adK adV N) H.size))
    (kk : ∀ (H1 : Heap) (locs1 : List Loc), l_H D cI cJ cS cR adX adM adK adV N A s σ out.2 H1 locs1 → W p l e R s m args below meth c H1 locs1 cells slots Q (F0 m (pc + 3) ls (.long out.1 :: rest))) : W p l e R s m args below meth c H locs cells slots Q (F0 m pc ls st0) :=
  va_calll hr hw.1.2.2.2.1 (fun q _ h => q_A_sub (l_M hw) q h) (q_A_sub (l_M hw)) (fun r u t H1 locs1 ht hvm hp hB _ hk hS => by
    cases hp
    exact kk H1 locs1 (l_afterM hw ht hB hk hS))
theorem l_callMm {out : Int32 × q_M × Nat} {mc ms : Nat} (hw : l_H D cI cJ cS cR adX adM adK adV N A s σ τ H locs) (hr : va_Run p l e R s m args below meth c H locs cells slots mc ms (F0 m pc ls st0) rest (m_R D cI cJ cR adK adV (q_A (gM D cI cJ cR adM adK adV N) H.size) adM N out a) (q_A (gM D cI cJ cR adM adK adV N) H.size))
    (kk : ∀ (adM' : Nat → Nat) (H1 : Heap) (locs1 : List Loc), (∀ k, k < N → adM' k = adM k) → l_H D cI cJ cS cR adX adM' adK adV out.2.2 A s σ out.2.1 H1 locs1 → W p l e R s m args below meth c H1 locs1 (cells + mc) (slots + ms) Q (F0 m (pc + 3) ls (.int out.1 :: rest))) : W p l e R s m args below meth c H locs cells slots Q (F0 m pc ls st0) :=
  va_calli hr hw.1.2.2.2.1 (fun q _ h => q_A_sub (l_M hw) q h) (q_A_sub (l_M hw)) (fun r u t H1 locs1 ht hvm hp hB _ hk hS => by
    obtain ⟨rfl, hu⟩ := hp
    exact kk u H1 locs1 hu (l_afterM hw ht hB hk hS))
theorem l_preM (hw : l_H D cI cJ cS cR adX adM adK adV N A s σ τ H locs) : ∀ U : State, U.heap = H → s.WarmedH U.vm → va_Pc [.ref (adM 0)] (m_Pre D cI cJ cR adK adV adM N H.size τ) [Value.ref (adM 0)].toArray U := fun U hU hW =>
  ⟨rfl, (q_pre (As := [.ref (adM 0)]) (l_M hw) U hU hW).2, va_AOA.moved hW.alike hw.2⟩
/-- the script -/
theorem l_sld {cc : ByteArray} {nL : Nat} {Ts : List Cond} {own : String} {b L i k : Nat} {xs : Nat → Int32} {v : Int32} (C0 : CallFix p m c cc nL s args Ts own) (hX : va_X b L xs s s.heap) (hbl : b < s.heap.size) (hbA : ¬ A b) (hS : va_S A s.heap H locs) (hv : v = nI (i + k)) (hi : i + k < L) (hL : L < 2 ^ 31) (hdg : decode cc pc = .ok (.iaload, 1))
    (kk : W p l e R s m args below meth c H locs cells slots Q (F0 m (pc + 1) ls (.int (xs (i + k)) :: rest))) : W p l e R s m args below meth c H locs cells slots Q (F0 m pc ls (.int v :: .ref b :: rest)) := by
  subst hv
  refine va_sld C0.1 C0.2.1 hX hbl hbA hS (vp_in_nI hi hL) hdg ?_
  rw [nI_clamp (by omega)]
  exact kk
end LW
