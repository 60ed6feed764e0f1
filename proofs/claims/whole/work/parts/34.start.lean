theorem iL_X8 : ∀ w ∈ wsX80, w ∈ wsL_law := by decide +kernel
theorem iL_X9 : ∀ w ∈ wsX90, w ∈ wsL_law := by decide +kernel
section
variable {p : Program} {l : Launch} {e : Env} {s : State} {m : MethodId} {below : List Frame} {meth : Method} {c : Code}
variable {D : va_G} {cI cJ cS cR : ClassId} {adX adK adV : Nat → Nat} {σ1 : q_M} {b L : Nat} {xs : Nat → Int32} {R : q_M → q_M → Nat → Prop}
set_option maxHeartbeats 8000000 in
set_option maxRecDepth 100000 in
theorem law_loop (hO : OpsAll σ1 R) (hS1 : fX9_showOnes 0 m_0 = some σ1) (h19 : σ1.1 0 19 = 0) (h27 : σ1.1 0 27 = 0) (hRN : ∀ σ τ N, R σ τ N → mB N 0 ∧ N % 29 = 0 ∧ N ≤ 87 ∧ mV N τ) (C0 : CallFix p m c code 4 s #[Value.ref b] wsL_law RL) (hr : meth.sig.returnType = ret) (hlocks : meth.locks = false) (hX : va_X b L xs s s.heap) (hbl : b < s.heap.size) (hL : L ≤ 3072) :
    ∀ (d j i : Nat) (σ τ : q_M) (N : Nat) (adM : Nat → Nat) (H : Heap) (locs : List Loc) (ls : Array Slot), i = 6 * j → L + 6 ≤ i + 6 * d → i ≤ L + 5 → R σ τ N → l_H D cI cJ cS cR adX adM adK adV N (fun q : Nat => s.heap.size ≤ q) s σ τ H locs → lv_has ls 4 [(0, .ref b), (1, .ref (adX 0)), (2, .ref (adM 0)), (3, .int (nI i))] → W p l e room_1 s m #[Value.ref b] below meth c H locs (92 + 29 * j) (2000 + 1060 * j) (lw_Z below #[Value.ref b] s) (F0 m 18 ls []) := by
  obtain ⟨hx, hb, hml, hown, hts⟩ := id C0
  have hbA : ¬ (fun q : Nat => s.heap.size ≤ q) b := Nat.not_le.mpr hbl
  intro d
  induction d with
  | zero =>
    intro j i σ τ N adM H locs ls hi hd hi5
    exact absurd hd (by omega)
  | succ d ih =>
    intro j i σ τ N adM H locs ls hi hd hi5 hR hw hl
    refine lv_iload_n hx hb dL_law_18 rfl (lv_at hl 3 rfl) ?_
    refine lv_aload_n hx hb dL_law_19 rfl (lv_at hl 0 rfl) ?_
    refine va_slen hx hb hX hbl hbA hw.1.2.2.2.1 dL_law_20 ?_
    refine lv_bipush (v := nI 6) hx hb dL_law_21 (by decide) ?_
    refine lv_isub hx hb dL_law_23 ?_
    refine lv_icmp_gt (tgt := 1853) hx hb dL_law_24 (by decide) (fun c1 => ?_) (fun c1 => ?_)
    · refine lv_iconst (v := 1) hx hb dL_law_1853 (by decide) ?_
      refine va_forget (fun q hq => hw.1.2.2.2.1.2.2 q hq) ?_
      refine W.widen (k := 600000) (n := 7302250) (by omega) (by omega) ?_
      exact lw_ret hx hb hr hlocks dL_law_1854
    · have hi6 : i + 6 ≤ L := by
        rcases Nat.lt_or_ge L (i + 6) with q | q
        · exfalso
          apply c1
          have e1 : (nI L - nI 6).toInt = (L : Int) - 6 := pk_sub_toInt (by omega) (by decide)
          have e2 : (nI i).toInt = (i : Int) := nI_toInt (by omega)
          apply Int32.lt_iff_toInt_lt.mpr
          show (nI L - nI 6).toInt < (nI i).toInt
          rw [e1, e2]
          omega
        · exact q
      have hcs : (92 + 29 * j) + 29 ≤ 600000 ∧ (2000 + 1060 * j) + 1060 ≤ 7302250 := ⟨by omega, by omega⟩
      have kk : ∀ (σ' τ' : q_M) (N' : Nat) (adM' : Nat → Nat) (H : Heap) (locs : List Loc) (ls : Array Slot), R σ' τ' N' → l_H D cI cJ cS cR adX adM' adK adV N' (fun q : Nat => s.heap.size ≤ q) s σ' τ' H locs → lv_has ls 4 [(0, .ref b), (1, .ref (adX 0)), (2, .ref (adM' 0)), (3, .int (nI i))] → W p l e room_1 s m #[Value.ref b] below meth c H locs ((92 + 29 * j) + 29) ((2000 + 1060 * j) + 1060) (lw_Z below #[Value.ref b] s) (F0 m 1847 ls []) := by
        intro σ' τ' N' adM' H locs ls hR hw hl
        refine lv_iinc (v := nI (i + 6)) (lv' := [(3, .int (nI (i + 6))), (0, .ref b), (1, .ref (adX 0)), (2, .ref (adM' 0))]) hx hb dL_law_1847 hl (k := 3) rfl (nI_add i 6) (by decide) rfl (fun ls hl => ?_)
        refine lv_goto (tgt := 18) hx hb dL_law_1850 (by decide) ?_
        refine W.widen (k := 92 + 29 * (j + 1)) (n := 2000 + 1060 * (j + 1)) (by omega) (by omega) ?_
        exact ih (j + 1) (i + 6) σ' τ' N' adM' H locs ls (by omega) (by omega) (by omega) hR hw (lv_sub hl [1, 2, 3, 0] rfl)
      refine lv_aload_n hx hb dL_law_27 rfl (lv_at hl 0 rfl) ?_
      refine lv_iload_n hx hb dL_law_28 rfl (lv_at hl 3 rfl) ?_
      refine l_sld (i := i) (k := 0) C0 hX hbl hbA hw.1.2.2.2.1 rfl (by omega) (by omega) dL_law_29 ?_
      refine lv_bipush (v := (63 : Int32)) hx hb dL_law_30 (by decide) ?_
      refine lv_iand hx hb dL_law_32 ?_
      obtain ⟨q, hq, eq⟩ := pk_andE (xs (i + 0)) (m := 63) 6 (by decide)
      rw [eq]
      rcases Nat.lt_or_ge q 53 with hq2 | hq2
      · match q, hq2 with
        | 0, _ => exact q_tabIn (v := nI 0) (off := 227) (tgt := 260) C0 rfl dL_law_33 (by decide) (by decide) rfl (by decide) (lc_row (hO.1) hRN C0 hX hbl (by omega) hi6 hcs hR hw hl kk)
        | 1, _ => exact q_tabIn (v := nI 1) (off := 270) (tgt := 303) C0 rfl dL_law_33 (by decide) (by decide) rfl (by decide) (lc_set (hO.2.1) hRN C0 hX hbl (by omega) hi6 hcs hR hw hl kk)
        | 2, _ => exact q_tabIn (v := nI 2) (off := 343) (tgt := 376) C0 rfl dL_law_33 (by decide) (by decide) rfl (by decide) (lc_copy (hO.2.2.1) hRN C0 hX hbl (by omega) hi6 hcs hR hw hl kk)
        | 3, _ => exact q_tabIn (v := nI 3) (off := 406) (tgt := 439) C0 rfl dL_law_33 (by decide) (by decide) rfl (by decide) (lc_element (hO.2.2.2.1) hRN C0 hX hbl (by omega) hi6 hcs hR hw hl kk)
        | 4, _ => exact q_tabIn (v := nI 4) (off := 440) (tgt := 473) C0 rfl dL_law_33 (by decide) (by decide) rfl (by decide) (lc_holds (hO.2.2.2.2.1) hRN C0 hX hbl (by omega) hi6 hcs hR hw hl kk)
        | 5, _ => exact q_tabIn (v := nI 5) (off := 463) (tgt := 496) C0 rfl dL_law_33 (by decide) (by decide) rfl (by decide) (lc_move (hO.2.2.2.2.2.1) hRN C0 hX hbl (by omega) hi6 hcs hR hw hl kk)
        | 6, _ => exact q_tabIn (v := nI 6) (off := 516) (tgt := 549) C0 rfl dL_law_33 (by decide) (by decide) rfl (by decide) (lc_says (hO.2.2.2.2.2.2.1) hRN C0 hX hbl (by omega) hi6 hcs hR hw hl kk)
        | 7, _ => exact q_tabIn (v := nI 7) (off := 549) (tgt := 582) C0 rfl dL_law_33 (by decide) (by decide) rfl (by decide) (lc_size (hO.2.2.2.2.2.2.2.1) hRN C0 hX hbl (by omega) hi6 hcs hR hw hl kk)
        | 8, _ => exact q_tabIn (v := nI 8) (off := 572) (tgt := 605) C0 rfl dL_law_33 (by decide) (by decide) rfl (by decide) (lc_solid (hO.2.2.2.2.2.2.2.2.1) hRN C0 hX hbl (by omega) hi6 hcs hR hw hl kk)
        | 9, _ => exact q_tabIn (v := nI 9) (off := 651) (tgt := 684) C0 rfl dL_law_33 (by decide) (by decide) rfl (by decide) (lc_figure (hO.2.2.2.2.2.2.2.2.2.1) hRN C0 hX hbl (by omega) hi6 hcs hR hw hl kk)
        | 10, _ => exact q_tabIn (v := nI 10) (off := 674) (tgt := 707) C0 rfl dL_law_33 (by decide) (by decide) rfl (by decide) (lc_piece (hO.2.2.2.2.2.2.2.2.2.2.1) hRN C0 hX hbl (by omega) hi6 hcs hR hw hl kk)
        | 11, _ => exact q_tabIn (v := nI 11) (off := 727) (tgt := 760) C0 rfl dL_law_33 (by decide) (by decide) rfl (by decide) (lc_alter (hO.2.2.2.2.2.2.2.2.2.2.2.1) hRN C0 hX hbl (by omega) hi6 hcs hR hw hl kk)
        | 12, _ => exact q_tabIn (v := nI 12) (off := 790) (tgt := 823) C0 rfl dL_law_33 (by decide) (by decide) rfl (by decide) (lc_ask (hO.2.2.2.2.2.2.2.2.2.2.2.2.1) hRN C0 hX hbl (by omega) hi6 hcs hR hw hl kk)
        | 13, _ => exact q_tabIn (v := nI 13) (off := 833) (tgt := 866) C0 rfl dL_law_33 (by decide) (by decide) rfl (by decide) (lc_feed (hO.2.2.2.2.2.2.2.2.2.2.2.2.2.1) hRN C0 hX hbl (by omega) hi6 hcs hR hw hl kk)
        | 14, _ => exact q_tabIn (v := nI 14) (off := 866) (tgt := 899) C0 rfl dL_law_33 (by decide) (by decide) rfl (by decide) (lc_wipe (hO.2.2.2.2.2.2.2.2.2.2.2.2.2.2.1) hRN C0 hX hbl (by omega) hi6 hcs hR hw hl kk)
        | 15, _ => exact q_tabIn (v := nI 15) (off := 879) (tgt := 912) C0 rfl dL_law_33 (by decide) (by decide) rfl (by decide) (lc_read (hO.2.2.2.2.2.2.2.2.2.2.2.2.2.2.2.1) hS1 h19 h27 hRN C0 hX hbl (by omega) hi6 hcs hR hw hl kk)
        | 16, _ => exact q_tabIn (v := nI 16) (off := 892) (tgt := 925) C0 rfl dL_law_33 (by decide) (by decide) rfl (by decide) (lc_cubes (hO.2.2.2.2.2.2.2.2.2.2.2.2.2.2.2.2.1) hRN C0 hX hbl (by omega) hi6 hcs hR hw hl kk)
        | 17, _ => exact q_tabIn (v := nI 17) (off := 916) (tgt := 949) C0 rfl dL_law_33 (by decide) (by decide) rfl (by decide) (lc_setOf (hO.2.2.2.2.2.2.2.2.2.2.2.2.2.2.2.2.2.1) hRN C0 hX hbl (by omega) hi6 hcs hR hw hl kk)
        | 18, _ => exact q_tabIn (v := nI 18) (off := 940) (tgt := 973) C0 rfl dL_law_33 (by decide) (by decide) rfl (by decide) (lc_whole (hO.2.2.2.2.2.2.2.2.2.2.2.2.2.2.2.2.2.2.1) hRN C0 hX hbl (by omega) hi6 hcs hR hw hl kk)
        | 19, _ => exact q_tabIn (v := nI 19) (off := 993) (tgt := 1026) C0 rfl dL_law_33 (by decide) (by decide) rfl (by decide) (lc_parts (hO.2.2.2.2.2.2.2.2.2.2.2.2.2.2.2.2.2.2.2.1) hRN C0 hX hbl (by omega) hi6 hcs hR hw hl kk)
        | 20, _ => exact q_tabIn (v := nI 20) (off := 1006) (tgt := 1039) C0 rfl dL_law_33 (by decide) (by decide) rfl (by decide) (lc_free (hO.2.2.2.2.2.2.2.2.2.2.2.2.2.2.2.2.2.2.2.2.1) hRN C0 hX hbl (by omega) hi6 hcs hR hw hl kk)
        | 21, _ => exact q_tabIn (v := nI 21) (off := 1029) (tgt := 1062) C0 rfl dL_law_33 (by decide) (by decide) rfl (by decide) (lc_comes (hO.2.2.2.2.2.2.2.2.2.2.2.2.2.2.2.2.2.2.2.2.2.1) hRN C0 hX hbl (by omega) hi6 hcs hR hw hl kk)
        | 22, _ => exact q_tabIn (v := nI 22) (off := 1092) (tgt := 1125) C0 rfl dL_law_33 (by decide) (by decide) rfl (by decide) (lc_wrong (hO.2.2.2.2.2.2.2.2.2.2.2.2.2.2.2.2.2.2.2.2.2.2.1) hRN C0 hX hbl (by omega) hi6 hcs hR hw hl kk)
        | 23, _ => exact q_tabIn (v := nI 23) (off := 1131) (tgt := 1164) C0 rfl dL_law_33 (by decide) (by decide) rfl (by decide) (lc_loose (hO.2.2.2.2.2.2.2.2.2.2.2.2.2.2.2.2.2.2.2.2.2.2.2.1) hRN C0 hX hbl (by omega) hi6 hcs hR hw hl kk)
        | 24, _ => exact q_tabIn (v := nI 24) (off := 1154) (tgt := 1187) C0 rfl dL_law_33 (by decide) (by decide) rfl (by decide) (lc_bars (hO.2.2.2.2.2.2.2.2.2.2.2.2.2.2.2.2.2.2.2.2.2.2.2.2.1) hRN C0 hX hbl (by omega) hi6 hcs hR hw hl kk)
        | 25, _ => exact q_tabIn (v := nI 25) (off := 1187) (tgt := 1220) C0 rfl dL_law_33 (by decide) (by decide) rfl (by decide) (lc_order (hO.2.2.2.2.2.2.2.2.2.2.2.2.2.2.2.2.2.2.2.2.2.2.2.2.2.1) hRN C0 hX hbl (by omega) hi6 hcs hR hw hl kk)
        | 26, _ => exact q_tabIn (v := nI 26) (off := 1220) (tgt := 1253) C0 rfl dL_law_33 (by decide) (by decide) rfl (by decide) (lc_ring (hO.2.2.2.2.2.2.2.2.2.2.2.2.2.2.2.2.2.2.2.2.2.2.2.2.2.2.1) hRN C0 hX hbl (by omega) hi6 hcs hR hw hl kk)
        | 27, _ => exact q_tabIn (v := nI 27) (off := 1233) (tgt := 1266) C0 rfl dL_law_33 (by decide) (by decide) rfl (by decide) (lc_serves (hO.2.2.2.2.2.2.2.2.2.2.2.2.2.2.2.2.2.2.2.2.2.2.2.2.2.2.2.1) hRN C0 hX hbl (by omega) hi6 hcs hR hw hl kk)
        | 28, _ => exact q_tabIn (v := nI 28) (off := 1256) (tgt := 1289) C0 rfl dL_law_33 (by decide) (by decide) rfl (by decide) (lc_fewest (hO.2.2.2.2.2.2.2.2.2.2.2.2.2.2.2.2.2.2.2.2.2.2.2.2.2.2.2.2.1) hRN C0 hX hbl (by omega) hi6 hcs hR hw hl kk)
        | 29, _ => exact q_tabIn (v := nI 29) (off := 1269) (tgt := 1302) C0 rfl dL_law_33 (by decide) (by decide) rfl (by decide) (lc_parted (hO.2.2.2.2.2.2.2.2.2.2.2.2.2.2.2.2.2.2.2.2.2.2.2.2.2.2.2.2.2.1) hRN C0 hX hbl (by omega) hi6 hcs hR hw hl kk)
        | 30, _ => exact q_tabIn (v := nI 30) (off := 1302) (tgt := 1335) C0 rfl dL_law_33 (by decide) (by decide) rfl (by decide) (lc_hidden (hO.2.2.2.2.2.2.2.2.2.2.2.2.2.2.2.2.2.2.2.2.2.2.2.2.2.2.2.2.2.2.1) hRN C0 hX hbl (by omega) hi6 hcs hR hw hl kk)
        | 31, _ => exact q_tabIn (v := nI 31) (off := 1315) (tgt := 1348) C0 rfl dL_law_33 (by decide) (by decide) rfl (by decide) (lc_make (hO.2.2.2.2.2.2.2.2.2.2.2.2.2.2.2.2.2.2.2.2.2.2.2.2.2.2.2.2.2.2.2.1) hRN C0 hX hbl (by omega) hi6 hcs hR hw hl kk)
        | 32, _ => exact q_tabIn (v := nI 32) (off := 1338) (tgt := 1371) C0 rfl dL_law_33 (by decide) (by decide) rfl (by decide) (lc_halves (hO.2.2.2.2.2.2.2.2.2.2.2.2.2.2.2.2.2.2.2.2.2.2.2.2.2.2.2.2.2.2.2.2.1) hRN C0 hX hbl (by omega) hi6 hcs hR hw hl kk)
        | 33, _ => exact q_tabIn (v := nI 33) (off := 1361) (tgt := 1394) C0 rfl dL_law_33 (by decide) (by decide) rfl (by decide) (lc_line (hO.2.2.2.2.2.2.2.2.2.2.2.2.2.2.2.2.2.2.2.2.2.2.2.2.2.2.2.2.2.2.2.2.2.1) hRN C0 hX hbl (by omega) hi6 hcs hR hw hl kk)
        | 34, _ => exact q_tabIn (v := nI 34) (off := 1384) (tgt := 1417) C0 rfl dL_law_33 (by decide) (by decide) rfl (by decide) (lc_cut (hO.2.2.2.2.2.2.2.2.2.2.2.2.2.2.2.2.2.2.2.2.2.2.2.2.2.2.2.2.2.2.2.2.2.2.1) hRN C0 hX hbl (by omega) hi6 hcs hR hw hl kk)
        | 35, _ => exact q_tabIn (v := nI 35) (off := 1417) (tgt := 1450) C0 rfl dL_law_33 (by decide) (by decide) rfl (by decide) (lc_best (hO.2.2.2.2.2.2.2.2.2.2.2.2.2.2.2.2.2.2.2.2.2.2.2.2.2.2.2.2.2.2.2.2.2.2.2.1) hRN C0 hX hbl (by omega) hi6 hcs hR hw hl kk)
        | 36, _ => exact q_tabIn (v := nI 36) (off := 1430) (tgt := 1463) C0 rfl dL_law_33 (by decide) (by decide) rfl (by decide) (lc_helps (hO.2.2.2.2.2.2.2.2.2.2.2.2.2.2.2.2.2.2.2.2.2.2.2.2.2.2.2.2.2.2.2.2.2.2.2.2.1) hRN C0 hX hbl (by omega) hi6 hcs hR hw hl kk)
        | 37, _ => exact q_tabIn (v := nI 37) (off := 1453) (tgt := 1486) C0 rfl dL_law_33 (by decide) (by decide) rfl (by decide) (lc_slide (hO.2.2.2.2.2.2.2.2.2.2.2.2.2.2.2.2.2.2.2.2.2.2.2.2.2.2.2.2.2.2.2.2.2.2.2.2.2.1) hRN C0 hX hbl (by omega) hi6 hcs hR hw hl kk)
        | 38, _ => exact q_tabIn (v := nI 38) (off := 1527) (tgt := 1560) C0 rfl dL_law_33 (by decide) (by decide) rfl (by decide) (lc_tunnels (hO.2.2.2.2.2.2.2.2.2.2.2.2.2.2.2.2.2.2.2.2.2.2.2.2.2.2.2.2.2.2.2.2.2.2.2.2.2.2.1) hRN C0 hX hbl (by omega) hi6 hcs hR hw hl kk)
        | 39, _ => exact q_tabIn (v := nI 39) (off := 1550) (tgt := 1583) C0 rfl dL_law_33 (by decide) (by decide) rfl (by decide) (lc_needed (hO.2.2.2.2.2.2.2.2.2.2.2.2.2.2.2.2.2.2.2.2.2.2.2.2.2.2.2.2.2.2.2.2.2.2.2.2.2.2.2.1) hRN C0 hX hbl (by omega) hi6 hcs hR hw hl kk)
        | 40, _ => exact q_tabIn (v := nI 40) (off := 1564) (tgt := 1597) C0 rfl dL_law_33 (by decide) (by decide) rfl (by decide) (lc_alike (hO.2.2.2.2.2.2.2.2.2.2.2.2.2.2.2.2.2.2.2.2.2.2.2.2.2.2.2.2.2.2.2.2.2.2.2.2.2.2.2.2.1) hRN C0 hX hbl (by omega) hi6 hcs hR hw hl kk)
        | 41, _ => exact q_tabIn (v := nI 41) (off := 1577) (tgt := 1610) C0 rfl dL_law_33 (by decide) (by decide) rfl (by decide) (lc_mirror (hO.2.2.2.2.2.2.2.2.2.2.2.2.2.2.2.2.2.2.2.2.2.2.2.2.2.2.2.2.2.2.2.2.2.2.2.2.2.2.2.2.2.1) hRN C0 hX hbl (by omega) hi6 hcs hR hw hl kk)
        | 42, _ => exact q_tabIn (v := nI 42) (off := 1600) (tgt := 1633) C0 rfl dL_law_33 (by decide) (by decide) rfl (by decide) (lc_turn (hO.2.2.2.2.2.2.2.2.2.2.2.2.2.2.2.2.2.2.2.2.2.2.2.2.2.2.2.2.2.2.2.2.2.2.2.2.2.2.2.2.2.2.1) hRN C0 hX hbl (by omega) hi6 hcs hR hw hl kk)
        | 43, _ => exact q_tabIn (v := nI 43) (off := 1623) (tgt := 1656) C0 rfl dL_law_33 (by decide) (by decide) rfl (by decide) (lc_thin (hO.2.2.2.2.2.2.2.2.2.2.2.2.2.2.2.2.2.2.2.2.2.2.2.2.2.2.2.2.2.2.2.2.2.2.2.2.2.2.2.2.2.2.2.1) hRN C0 hX hbl (by omega) hi6 hcs hR hw hl kk)
        | 44, _ => exact q_tabIn (v := nI 44) (off := 1656) (tgt := 1689) C0 rfl dL_law_33 (by decide) (by decide) rfl (by decide) (lc_spare (hO.2.2.2.2.2.2.2.2.2.2.2.2.2.2.2.2.2.2.2.2.2.2.2.2.2.2.2.2.2.2.2.2.2.2.2.2.2.2.2.2.2.2.2.2.1) hRN C0 hX hbl (by omega) hi6 hcs hR hw hl kk)
        | 45, _ => exact q_tabIn (v := nI 45) (off := 1680) (tgt := 1713) C0 rfl dL_law_33 (by decide) (by decide) rfl (by decide) (lc_grow (hO.2.2.2.2.2.2.2.2.2.2.2.2.2.2.2.2.2.2.2.2.2.2.2.2.2.2.2.2.2.2.2.2.2.2.2.2.2.2.2.2.2.2.2.2.2.1) hRN C0 hX hbl (by omega) hi6 hcs hR hw hl kk)
        | 46, _ => exact q_tabIn (v := nI 46) (off := 1703) (tgt := 1736) C0 rfl dL_law_33 (by decide) (by decide) rfl (by decide) (lc_faces (hO.2.2.2.2.2.2.2.2.2.2.2.2.2.2.2.2.2.2.2.2.2.2.2.2.2.2.2.2.2.2.2.2.2.2.2.2.2.2.2.2.2.2.2.2.2.2.1) hRN C0 hX hbl (by omega) hi6 hcs hR hw hl kk)
        | 47, _ => exact q_tabIn (v := nI 47) (off := 1726) (tgt := 1759) C0 rfl dL_law_33 (by decide) (by decide) rfl (by decide) (lc_casts (hO.2.2.2.2.2.2.2.2.2.2.2.2.2.2.2.2.2.2.2.2.2.2.2.2.2.2.2.2.2.2.2.2.2.2.2.2.2.2.2.2.2.2.2.2.2.2.2.1) hRN C0 hX hbl (by omega) hi6 hcs hR hw hl kk)
        | 48, _ => exact q_tabIn (v := nI 48) (off := 1739) (tgt := 1772) C0 rfl dL_law_33 (by decide) (by decide) rfl (by decide) (lc_step (hO.2.2.2.2.2.2.2.2.2.2.2.2.2.2.2.2.2.2.2.2.2.2.2.2.2.2.2.2.2.2.2.2.2.2.2.2.2.2.2.2.2.2.2.2.2.2.2.2.1) hRN C0 hX hbl (by omega) hi6 hcs hR hw hl kk)
        | 49, _ => exact q_tabIn (v := nI 49) (off := 1752) (tgt := 1785) C0 rfl dL_law_33 (by decide) (by decide) rfl (by decide) (lc_again (hO.2.2.2.2.2.2.2.2.2.2.2.2.2.2.2.2.2.2.2.2.2.2.2.2.2.2.2.2.2.2.2.2.2.2.2.2.2.2.2.2.2.2.2.2.2.2.2.2.2.1) hRN C0 hX hbl (by omega) hi6 hcs hR hw hl kk)
        | 50, _ => exact q_tabIn (v := nI 50) (off := 1765) (tgt := 1798) C0 rfl dL_law_33 (by decide) (by decide) rfl (by decide) (lc_image (hO.2.2.2.2.2.2.2.2.2.2.2.2.2.2.2.2.2.2.2.2.2.2.2.2.2.2.2.2.2.2.2.2.2.2.2.2.2.2.2.2.2.2.2.2.2.2.2.2.2.2.1) hS1 h19 h27 hRN C0 hX hbl (by omega) hi6 hcs hR hw hl kk)
        | 51, _ => exact q_tabIn (v := nI 51) (off := 1778) (tgt := 1811) C0 rfl dL_law_33 (by decide) (by decide) rfl (by decide) (lc_back (hO.2.2.2.2.2.2.2.2.2.2.2.2.2.2.2.2.2.2.2.2.2.2.2.2.2.2.2.2.2.2.2.2.2.2.2.2.2.2.2.2.2.2.2.2.2.2.2.2.2.2.2.1) hRN C0 hX hbl (by omega) hi6 hcs hR hw hl kk)
        | 52, _ => exact q_tabIn (v := nI 52) (off := 1791) (tgt := 1824) C0 rfl dL_law_33 (by decide) (by decide) rfl (by decide) (lc_status (hO.2.2.2.2.2.2.2.2.2.2.2.2.2.2.2.2.2.2.2.2.2.2.2.2.2.2.2.2.2.2.2.2.2.2.2.2.2.2.2.2.2.2.2.2.2.2.2.2.2.2.2.2) hRN C0 hX hbl (by omega) hi6 hcs hR hw hl kk)
        | n + 53, h => exact absurd h (by omega)
      · have h9 : (nI q).toInt = (q : Int) := nI_toInt (by omega)
        refine lv_tableOut (tgt := 1847) hx hb dL_law_33 (Or.inr (by rw [h9]; omega)) (by decide) ?_
        refine W.widen (k := (92 + 29 * j) + 29) (n := (2000 + 1060 * j) + 1060) (by omega) (by omega) ?_
        exact kk σ τ N adM H locs ls hR hw hl
end
/-- the words of the start: the nine texts, the two statics -/
theorem start_Z {s : State} {b : Nat} {A : Nat → Prop} (hts : ∀ w ∈ lw_tbl, w.before #[Value.ref b] s = true) (hgv : (Jvm.Cond.and given_1 narrow_1).before #[Value.ref b] s = true) (hA : ∀ a : Nat, a < s.heap.size → ¬ A a) : ∃ adK adV : Nat → Nat, z_Z adK adV A s := by
  have hf := flat_of_before _ hgv
  obtain ⟨adK, adV, hS, hK⟩ := vk_Sof (args := #[Value.ref b]) (s := s) (N := 9) (tm := fun i => Term.string RX4 (q_s4 i)) (len := q_len) (byt := q_byt) (A := A) (by decide +kernel)
    (fun i hi => hf _ ((by decide +kernel : ∀ i, i < 9 → Cond.exactly (Term.string RX4 (q_s4 i)) "java/lang/String" ∈ flatC (Jvm.Cond.and given_1 narrow_1)) i hi))
    (fun i hi => hf _ ((by decide +kernel : ∀ i, i < 9 → Cond.eq (.field (Term.string RX4 (q_s4 i)) "java/lang/String" "coder" "B") (.int 0) ∈ flatC (Jvm.Cond.and given_1 narrow_1)) i hi))
    (fun i hi => hf _ ((by decide +kernel : ∀ i, i < 9 → Cond.arrayOf (.field (Term.string RX4 (q_s4 i)) "java/lang/String" "value" "[B") .byte ∈ flatC (Jvm.Cond.and given_1 narrow_1)) i hi))
    (fun i hi => hf _ ((by decide +kernel : ∀ i, i < 9 → Cond.eq (.length (.field (Term.string RX4 (q_s4 i)) "java/lang/String" "value" "[B")) (.int (Int32.ofNat (q_len.getD i 0))) ∈ flatC (Jvm.Cond.and given_1 narrow_1)) i hi))
    (fun i hi j hj => hf _ ((by decide +kernel : ∀ i, i < 9 → ∀ j, j < q_len.getD i 0 → Cond.eq (.elem (.field (Term.string RX4 (q_s4 i)) "java/lang/String" "value" "[B") (.int (Int32.ofNat j))) (.int ((q_byt.getD i []).getD j 0)) ∈ flatC (Jvm.Cond.and given_1 narrow_1)) i hi j hj))
    (fun i j hi hj hne => by
      rcases (by decide +kernel : ∀ i, i < 9 → ∀ j, j < 9 → i ≠ j → (Cond.not (Cond.eq (Term.string RX4 (q_s4 i)) (Term.string RX4 (q_s4 j))) ∈ flatC (Jvm.Cond.and given_1 narrow_1) ∨ Cond.not (Cond.eq (Term.string RX4 (q_s4 j)) (Term.string RX4 (q_s4 i))) ∈ flatC (Jvm.Cond.and given_1 narrow_1))) i hi j hj hne with h | h
      · exact Or.inl (hf _ h)
      · exact Or.inr (hf _ h)) hA
  refine ⟨adK, adV, fun i hi => ⟨vk_R.of (A := #[Value.ref b]) (hts _ ((by decide +kernel : ∀ i, i < 9 → Cond.stringRef RX4 (q_s4 i) (q_sx i) ∈ lw_tbl) i hi)) (hK i hi), vk_R.of (A := #[Value.ref b]) (hts _ ((by decide +kernel : ∀ i, i < 9 → Cond.stringRef RX9 (q_s9 i) (q_sx i) ∈ lw_tbl) i hi)) (va_eqR (hf _ ((by decide +kernel : ∀ i, i < 9 → Cond.eq (Term.string RX4 (q_s4 i)) (Term.string RX9 (q_s9 i)) ∈ flatC (Jvm.Cond.and given_1 narrow_1)) i hi)) (hK i hi))⟩, hS, ?_, ?_⟩
  · exact va_Zof (hts (.laysStatic "java/lang/String" "COMPACT_STRINGS" "Z") (by decide +kernel)) (hts (.initialized "java/lang/String") (by decide +kernel)) (va_eqi (hf _ (by decide +kernel))) hA
  · exact va_Zqof (hts (.laysStatic "jdk/internal/util/Preconditions" "SIOOBE_FORMATTER" "Ljava/util/function/BiFunction;") (by decide +kernel)) (hts (.initialized "jdk/internal/util/Preconditions") (by decide +kernel)) (hf _ (by decide +kernel)) hA
theorem start_arr {s : State} {args : Array Value} {ty : FieldType} (h : (Cond.arrayClass ty).before args s = true) : ∃ cA : ClassId, ArrOfT s cA ty ∧ s.vm.findClass ("[" ++ ty.toString) = some cA := by
  obtain ⟨cA, kA, comp, h1, h2, h3⟩ := Cond.arrayClass_spec h
  exact ⟨cA, fun n z => ⟨fun k h => (by cases h), kA, h2, comp, h3⟩, h1⟩
set_option maxHeartbeats 8000000 in
set_option maxRecDepth 100000 in
theorem whole_open {σB σ1 : q_M} {R : q_M → q_M → Nat → Prop} (hB : fX0_become 0 3 q_0 = some σB) (hS1 : fX9_showOnes 0 m_0 = some σ1) (h19 : σ1.1 0 19 = 0) (h27 : σ1.1 0 27 = 0) (hRN : ∀ σ τ N, R σ τ N → mB N 0 ∧ N % 29 = 0 ∧ N ≤ 87 ∧ mV N τ) (hO : OpsAll σ1 R) (hR0 : R (sX σB) σ1 29)
    {p : Program} {e : Env} {s : State} {m : MethodId} {below : List Frame} {meth : Method} {c : Code} (l : Launch) {b L : Nat} {xs : Nat → Int32} (hL : L ≤ 3072) (C0 : lw_At p s m meth c b L xs) : W p l e room_1 s m #[Value.ref b] below meth c s.heap [] 0 0 (lw_Z below #[Value.ref b] s) (entryFrame m ([Value.ref b] : List Value).toArray 4) := by
  obtain ⟨hx, hb, hr, hml, hown, hts0, hX, hbl, hlocks, hgv⟩ := id C0
  have hts : ∀ w ∈ wsL_law, w.before #[Value.ref b] s = true := fun w h => hts0 w (wsL_law_in w h)
  have CF : CallFix p m c code 4 s #[Value.ref b] wsL_law RL := ⟨hx, hb, hml, hown, hts⟩
  have hA : ∀ q : Nat, s.heap.size ≤ q → (fun q : Nat => s.heap.size ≤ q) q := fun _ h => h
  have hbA : ¬ (fun q : Nat => s.heap.size ≤ q) b := Nat.not_le.mpr hbl
  obtain ⟨c0, iS0, hKn0⟩ := u_known (C := RX0) (T := TX0) (N := 6) (n := 6) hts0 (fun w h => (wsX00_tb w h).1) (hts0 (.instantiable RX0 6) (by decide +kernel))
  obtain ⟨c1, iS1, hKn1⟩ := u_known (C := RX1) (T := TX1) (N := 3) (n := 3) hts0 (fun w h => (wsX10_tb w h).1) (hts0 (.instantiable RX1 3) (by decide +kernel))
  obtain ⟨c2, iS2, hKn2⟩ := u_known (C := RX2) (T := TX2) (N := 8) (n := 8) hts0 (fun w h => (wsX20_tb w h).1) (hts0 (.instantiable RX2 8) (by decide +kernel))
  obtain ⟨c3, iS3, hKn3⟩ := u_known (C := RX3) (T := TX3) (N := 3) (n := 3) hts0 (fun w h => (wsX30_tb w h).1) (hts0 (.instantiable RX3 3) (by decide +kernel))
  obtain ⟨c4, iS4, hKn4⟩ := u_known (C := RX5) (T := TX5) (N := 3) (n := 3) hts0 (fun w h => (wsX50_tb w h).1) (hts0 (.instantiable RX5 3) (by decide +kernel))
  obtain ⟨c5, iS5, hKn5⟩ := u_known (C := RX6) (T := TX6) (N := 3) (n := 3) hts0 (fun w h => (wsX60_tb w h).1) (hts0 (.instantiable RX6 3) (by decide +kernel))
  obtain ⟨c6, iS6, hKn6⟩ := u_known (C := RX7) (T := TX7) (N := 5) (n := 5) hts0 (fun w h => (wsX70_tb w h).1) (hts0 (.instantiable RX7 5) (by decide +kernel))
  obtain ⟨c7, iS7, hKn7⟩ := u_known (C := RX8) (T := TX8) (N := 12) (n := 12) hts0 (fun w h => (wsX80_tb w h).1) (hts0 (.instantiable RX8 12) (by decide +kernel))
  obtain ⟨c8, iS8, hKn8⟩ := u_known (C := RX9) (T := TX9) (N := 37) (n := 37) hts0 (fun w h => (wsX90_tb w h).1) (hts0 (.instantiable RX9 37) (by decide +kernel))
  obtain ⟨dC, dI, hKc⟩ : ∃ (dC : Nat → ClassId) (dI : Nat → Nat → Nat), ∀ (k : Nat) (q : vw_C), vwCl[k]? = some q → u_Kn s q.1 q.2.1 q.2.2 (dC k) (dI k) := by
    refine ⟨fun k => if k = 0 then c0 else if k = 1 then c1 else if k = 2 then c2 else if k = 3 then c3 else if k = 4 then c4 else if k = 5 then c5 else if k = 6 then c6 else if k = 7 then c7 else c8, fun k => if k = 0 then iS0 else if k = 1 then iS1 else if k = 2 then iS2 else if k = 3 then iS3 else if k = 4 then iS4 else if k = 5 then iS5 else if k = 6 then iS6 else if k = 7 then iS7 else iS8, ?_⟩
    intro k q hq
    match k, hq with
    | 0, hq => cases hq; exact hKn0
    | 1, hq => cases hq; exact hKn1
    | 2, hq => cases hq; exact hKn2
    | 3, hq => cases hq; exact hKn3
    | 4, hq => cases hq; exact hKn4
    | 5, hq => cases hq; exact hKn5
    | 6, hq => cases hq; exact hKn6
    | 7, hq => cases hq; exact hKn7
    | 8, hq => cases hq; exact hKn8
    | k + 9, hq => simp [vwCl] at hq
  obtain ⟨cI, hI1, hI2⟩ := start_arr (hts0 (.arrayClass .int) (by decide +kernel))
  obtain ⟨cJ, hJ1, hJ2⟩ := start_arr (hts0 (.arrayClass .long) (by decide +kernel))
  obtain ⟨compS, cS, kS, hS1', -, hS3, hS4, hS5⟩ := Cond.arrayOver_spec (hts0 (.arrayOver (.object "MouldThatComesOff$Shelf")) (by decide +kernel))
  obtain ⟨compR, cR, kR, hR1', hR2, hR3, hR4⟩ := Cond.arrayOver_specA (hts0 (.arrayOver (.array .long)) (by decide +kernel))
  have hAOA : va_AOA .long s := hts0 (.arrayOver (.array .long)) (by decide +kernel)
  have hK : va_K (dC, dI) vwCl (tyL_ cI cJ cS cR) s := by
    refine ⟨hKc, fun k q hk => ?_⟩
    match k, hk with
    | 0, hk => cases hk; exact ⟨hI1, hI2⟩
    | 1, hk => cases hk; exact ⟨hJ1, hJ2⟩
    | 2, hk => cases hk; exact ⟨fun n z => ⟨fun k h => (by cases h), kS, hS3, compS, hS4⟩, kS, compS, hS3, hS4, hS1', hS5⟩
    | 3, hk => cases hk; exact ⟨fun n z => ⟨fun k h => (by cases h), kR, hR2, compR, hR3⟩, hR4⟩
    | k + 4, hk => simp at hk
  obtain ⟨adK, adV, hZ⟩ := start_Z (A := (fun q : Nat => s.heap.size ≤ q)) hts0 hgv (fun a ha => Nat.not_le.mpr ha)
  have hN : c_N s := ⟨va_Nw.of rfl (hts0 (.methodLinkNest RX8 34 yX7_init RX8) (by decide +kernel)), va_Nw.of rfl (hts0 (.methodLinkNest RX8 41 yX1_init RX8) (by decide +kernel)), va_Nw.of rfl (hts0 (.methodLinkNest RX8 63 yX6_init RX8) (by decide +kernel)), va_Nw.of rfl (hts0 (.methodLinkNest RX6 17 yX5_init RX8) (by decide +kernel)), va_Nw.of rfl (hts0 (.methodLinkNest RX6 24 yX3_init RX8) (by decide +kernel)), hts0 (.arrayOver (.object "MouldThatComesOff$Shelf")) (by decide +kernel)⟩
  have hw : c_H (dC, dI) (tyL_ cI cJ cS cR) adK adV (fun q : Nat => s.heap.size ≤ q) s [] s.heap [] := ⟨hK, fun k q h => by simp at h, ⟨fun i j p q h => by simp at h, fun k q h => by simp at h⟩, va_S.rf, hA, hZ⟩
  have hl := lv_entry ([.ref b]) (n := 4) (Nat.le_of_ble_eq_true rfl)
  rw [lg_entry_eq]
  generalize (lg_sl ([.ref b]) ++ List.replicate (4 - (lg_sl ([.ref b])).length) Slot.unset).toArray = ls at hl ⊢
  replace hl : lv_has ls 4 [(0, .ref b)] := hl
  have hwx : c_H (dC, dI) (tyX_ cI cJ cS) adK adV (fun q : Nat => s.heap.size ≤ q) s [] s.heap [] := ⟨hK.sub [0, 1, 2] rfl, hw.2⟩
  refine c_newo (ci := 7) (fs := [.null, .null, .null, .int 0, .null, .null, .null, .null, .null, .null, .int 0, .int 0]) CF hwx rfl iL_X8 tyX8 tyX8_ok (by decide +kernel) (by decide +kernel) (by decide +kernel) (fun j hj => by rcases (show j = 0 ∨ j = 1 ∨ j = 2 ∨ j = 3 ∨ j = 4 ∨ j = 5 ∨ j = 6 ∨ j = 7 ∨ j = 8 ∨ j = 9 ∨ j = 10 ∨ j = 11 by omega) with rfl | rfl | rfl | rfl | rfl | rfl | rfl | rfl | rfl | rfl | rfl | rfl <;> rfl) (Nat.le_of_ble_eq_true rfl) (Nat.le_of_ble_eq_true rfl) dL_law_0 (fun q0 H hw => ?_)
  refine lv_dup hx hb dL_law_3 rfl ?_
  refine c_call (w0 := []) hw (va_runI (As := []) (rest := [.ref q0]) CF (kX8_init hB _ _) (cwI 0 hts gL_law_X8_init rfl rfl rfl (hts (.initialized RX8) (by decide +kernel)) (hts (.methodLink RL 9 yX8_init) (by decide +kernel)) (hts (.instanceMethod yX8_init) (by decide +kernel)) rfl ⟨by decide +kernel, by decide +kernel, by decide +kernel⟩ ⟨(Nat.le_of_ble_eq_true rfl), (Nat.le_of_ble_eq_true rfl)⟩) ⟨c_blind (fun _ _ _ _ h => c_N_blind h), c_pre (w0 := []) hw (fun U hW => c_N_call hN hW)⟩ rfl rfl hl.1 rfl (lv_room (Nat.le_of_ble_eq_true rfl)) dL_law_4 ⟨(Nat.le_of_ble_eq_true rfl), (Nat.le_of_ble_eq_true rfl)⟩) (fun ax H locs hw => ?_)
  obtain ⟨adX, hadX⟩ : ∃ adX : Nat → Nat, adX = fun k => if k = 0 then q0 else ax k := ⟨_, rfl⟩
  have hq0 : q0 = adX 0 := by rw [hadX]; rfl
  replace hw : c_H (dC, dI) (tyX_ cI cJ cS) adK adV (fun q : Nat => s.heap.size ≤ q) s (q_ws (gX (dC, dI) cI cJ cS adX adK adV) (sX σB)) H locs := by rw [hadX]; exact hw
  refine lv_astore_n (lv' := [(1, .ref q0), (0, .ref b)]) hx hb dL_law_7 rfl hl (by decide) rfl (fun ls hl => ?_)
  have hwm : c_H (dC, dI) (tyM_ cI cJ cR) adK adV (fun q : Nat => s.heap.size ≤ q) s (q_ws (gX (dC, dI) cI cJ cS adX adK adV) (sX σB)) H locs := ⟨hK.sub [0, 1, 3] rfl, hw.2⟩
  refine c_newo (ci := 8) (fs := [.null, .null, .null, .null, .null, .null, .null, .null, .null, .int 0, .null, .int 0, .long 0, .int 0, .null, .int 0, .null, .int 0, .int 0, .null, .int 0, .int 0, .int 0, .long 0, .int 0, .null, .int 0, .null, .int 0, .null, .null, .int 0, .null, .null, .null, .null, .null]) CF hwm rfl iL_X9 tyX9 tyX9_ok (by decide +kernel) (by decide +kernel) (by decide +kernel) (fun j hj => by rcases (show j = 0 ∨ j = 1 ∨ j = 2 ∨ j = 3 ∨ j = 4 ∨ j = 5 ∨ j = 6 ∨ j = 7 ∨ j = 8 ∨ j = 9 ∨ j = 10 ∨ j = 11 ∨ j = 12 ∨ j = 13 ∨ j = 14 ∨ j = 15 ∨ j = 16 ∨ j = 17 ∨ j = 18 ∨ j = 19 ∨ j = 20 ∨ j = 21 ∨ j = 22 ∨ j = 23 ∨ j = 24 ∨ j = 25 ∨ j = 26 ∨ j = 27 ∨ j = 28 ∨ j = 29 ∨ j = 30 ∨ j = 31 ∨ j = 32 ∨ j = 33 ∨ j = 34 ∨ j = 35 ∨ j = 36 by omega) with rfl | rfl | rfl | rfl | rfl | rfl | rfl | rfl | rfl | rfl | rfl | rfl | rfl | rfl | rfl | rfl | rfl | rfl | rfl | rfl | rfl | rfl | rfl | rfl | rfl | rfl | rfl | rfl | rfl | rfl | rfl | rfl | rfl | rfl | rfl | rfl | rfl <;> rfl) (Nat.le_of_ble_eq_true rfl) (Nat.le_of_ble_eq_true rfl) dL_law_8 (fun q1 H hw => ?_)
  refine lv_dup hx hb dL_law_11 rfl ?_
  refine c_call hw (va_runI (As := []) (rest := [.ref q1]) CF (kX9_init hS1 _ _) (cwI 0 hts gL_law_X9_init rfl rfl rfl (hts (.initialized RX9) (by decide +kernel)) (hts (.methodLink RL 12 yX9_init) (by decide +kernel)) (hts (.instanceMethod yX9_init) (by decide +kernel)) rfl ⟨by decide +kernel, by decide +kernel, by decide +kernel⟩ ⟨(Nat.le_of_ble_eq_true rfl), (Nat.le_of_ble_eq_true rfl)⟩) ⟨c_blind (fun _ _ _ _ h => va_AOA.blind h), c_pre hw (fun U hW => va_AOA.moved hW.alike hAOA)⟩ rfl rfl hl.1 rfl (lv_room (Nat.le_of_ble_eq_true rfl)) dL_law_12 ⟨(Nat.le_of_ble_eq_true rfl), (Nat.le_of_ble_eq_true rfl)⟩) (fun am H locs hw => ?_)
  obtain ⟨adM, hadM⟩ : ∃ adM : Nat → Nat, adM = fun k => if k = 0 then q1 else am k := ⟨_, rfl⟩
  have hq1 : q1 = adM 0 := by rw [hadM]; rfl
  have hwl : l_H (dC, dI) cI cJ cS cR adX adM adK adV 29 (fun q : Nat => s.heap.size ≤ q) s (sX σB) σ1 H locs := by
    refine ⟨⟨hK, ?_, ?_, hw.2.2.2⟩, hAOA⟩
    · rw [hadM]; exact hw.2.1
    · rw [hadM]; exact hw.2.2.1
  refine lv_astore_n (lv' := [(2, .ref q1), (1, .ref q0), (0, .ref b)]) hx hb dL_law_15 rfl hl (by decide) rfl (fun ls hl => ?_)
  refine lv_iconst (v := nI 0) hx hb dL_law_16 (by decide) ?_
  refine lv_istore_n (lv' := [(3, .int (nI 0)), (2, .ref q1), (1, .ref q0), (0, .ref b)]) hx hb dL_law_17 rfl hl (by decide) rfl (fun ls hl => ?_)
  rw [hq0, hq1] at hl
  refine W.widen (k := 92 + 29 * 0) (n := 2000 + 1060 * 0) (by decide) (by decide) ?_
  exact law_loop hO hS1 h19 h27 hRN CF hr hlocks hX hbl hL (L + 1) 0 0 (sX σB) σ1 29 adM H locs ls rfl (by omega) (by omega) hR0 hwl (lv_sub hl [3, 2, 1, 0] rfl)
