theorem law_in {i L : Nat} (hL : L ≤ 3072) (h1 : i ≤ L + 6) (c : ¬ nI L - 6 < nI i) : i + 6 ≤ L := by
  have h2 := Int32.not_lt.mp c
  have h3 := Int32.le_iff_toInt_le.mp h2
  rw [nI_toInt (show i < 2 ^ 31 by omega)] at h3
  have h4 : (nI L - 6).toInt = (L : Int) - 6 := by
    have e1 := Int32.toInt_sub (nI L) 6
    rw [nI_toInt (show L < 2 ^ 31 by omega), show (6 : Int32).toInt = 6 from by decide +kernel] at e1
    rw [e1]
    refine Int.bmod_eq_of_le ?_ ?_ <;> first | omega | (push_cast; omega) | (simp; omega)
  omega
set_option maxHeartbeats 4000000 in
set_option maxRecDepth 100000 in
theorem law_loop {p : Program} {e : Env} {s : State} {m : MethodId} {below : List Frame} {meth : Method} {c : Code} (l : Launch) {b L : Nat} {xs : Nat → Int32} (C0 : lw_At p s m meth c b L xs) {D : va_G} {ca : Nat → ClassId} (hC : Cx D ca s) {A : Nat → Prop} (hA : ∀ q : Nat, s.heap.size ≤ q → A q) (hbA : ¬ A b) {K : (Nat × Nat × Option Nat) × (Nat → Int32)} (hK : SK K A s s.heap) (hAs : ∀ q : Nat, A q → s.heap.size ≤ q) (hL : L ≤ 3072) {x0 m0 : Nat} (n : Nat) : ∀ (i : Nat) (tm : Int32) (w v : va_W) (H : Heap) (locs : List Loc) (ls : Array Slot), i ≤ L + 6 → L + 7 ≤ i + n → XV ca x0 tm w → MV ca m0 tm v → va_P D vwCl (ap w v) H → va_D A (ap w v) → va_S A s.heap H locs → lv_has ls 4 [(3, .int (nI i)), (2, .ref m0), (1, .ref x0), (0, .ref b)] → W p l e room_1 s m #[Value.ref b] below meth c H locs 212 50162 (lw_Z below #[Value.ref b] s) (F0 m 18 ls []) := by
  induction n with
  | zero => intro i tm w v H locs ls h1 h2; omega
  | succ n ih =>
    intro i tm w v H locs ls h1 h2 hIx hIm hP hD hS hl
    obtain ⟨hx, hb, hr, hml, hown, hts, hX, hbl, hlocks, hgv⟩ := id C0
    refine lv_iload_n hx hb dL_law_18 rfl (lv_at hl 0 rfl) ?_
    refine lv_aload_n hx hb dL_law_19 rfl (lv_at hl 3 rfl) ?_
    refine va_slen hx hb hX hbl hbA hS dL_law_20 ?_
    refine lv_bipush (v := 6) hx hb dL_law_21 (by decide +kernel) ?_
    refine lv_isub hx hb dL_law_23 ?_
    refine lv_icmp_gt (tgt := 936) hx hb dL_law_24 (by decide +kernel) (fun c1 => ?_) (fun c1 => ?_)
    · refine lv_iconst (v := 1) hx hb dL_law_936 (by decide +kernel) ?_
      refine va_forget (fun q hq => hAs _ (hS.2.2 q hq)) ?_
      refine W.widen (k := 600000) (n := 7302250) (Nat.le_of_ble_eq_true rfl) (Nat.le_of_ble_eq_true rfl) ?_
      exact lw_ret hx hb hr hlocks dL_law_937
    · have hi : i + 6 ≤ L := law_in hL h1 c1
      refine lv_aload_n hx hb dL_law_27 rfl (lv_at hl 3 rfl) ?_
      refine lv_iload_n hx hb dL_law_28 rfl (lv_at hl 0 rfl) ?_
      refine va_sld hx hb hX hbl hbA hS (vp_in_nI (n := i) (by omega) (by omega)) dL_law_29 ?_
      refine lv_bipush (v := 31) hx hb dL_law_30 (by decide +kernel) ?_
      refine lv_iand hx hb dL_law_32 ?_
      refine lv_topi (fun y ey => ?_)
      obtain ⟨j, hj, ej⟩ : ∃ j : Nat, j < 32 ∧ y = nI j := ⟨_, Nat.mod_lt _ (by decide +kernel), ey.trans (pk_and _ 5 (by decide +kernel))⟩
      subst ej
      have kk : ∀ (tm : Int32) (w v : va_W) (H : Heap) (locs : List Loc) (ls : Array Slot), XV ca x0 tm w → MV ca m0 tm v → va_P D vwCl (ap w v) H → va_D A (ap w v) → va_S A s.heap H locs → lv_has ls 4 [(3, .int (nI i)), (2, .ref m0), (1, .ref x0), (0, .ref b)] → W p l e room_1 s m #[Value.ref b] below meth c H locs 212 50162 (lw_Z below #[Value.ref b] s) (F0 m 930 ls []) := by
        intro tm w v H locs ls hIx hIm hP hD hS hl
        refine lv_iinc (v := nI (i + 6)) (lv' := [(3, .int (nI (i + 6))), (2, .ref m0), (1, .ref x0), (0, .ref b)]) hx hb dL_law_930 hl (k := 0) rfl (by rw [show Int32.ofInt 6 = nI 6 from by decide +kernel]; exact nI_add i 6) (by decide +kernel) rfl (fun ls hl => ?_)
        refine lv_goto (tgt := 18) hx hb dL_law_933 (by decide +kernel) ?_
        exact ih (i + 6) tm w v H locs ls (by omega) (by omega) hIx hIm hP hD hS hl
      rcases (show j = 0 ∨ j = 1 ∨ j = 2 ∨ j = 3 ∨ j = 4 ∨ j = 5 ∨ j = 6 ∨ j = 7 ∨ j = 8 ∨ j = 9 ∨ j = 10 ∨ j = 11 ∨ j = 12 ∨ j = 13 ∨ j = 14 ∨ j = 15 ∨ j = 16 ∨ j = 17 ∨ j = 18 ∨ j = 19 ∨ j = 20 ∨ j = 21 ∨ j = 22 ∨ j = 23 ∨ j = 24 ∨ j = 25 ∨ j = 26 ∨ j = 27 ∨ j = 28 ∨ j = 29 ∨ j = 30 ∨ j = 31 by omega) with rfl | rfl | rfl | rfl | rfl | rfl | rfl | rfl | rfl | rfl | rfl | rfl | rfl | rfl | rfl | rfl | rfl | rfl | rfl | rfl | rfl | rfl | rfl | rfl | rfl | rfl | rfl | rfl | rfl | rfl | rfl | rfl
      · refine lv_tableIn (off := 127) (tgt := 160) hx hb dL_law_33 (by decide +kernel) (by decide +kernel) (by decide +kernel) (by decide +kernel) ?_
        exact law_c0 l C0 hC hA hbA hK hIx hIm hi hL hP hD hS hl kk
      · refine lv_tableIn (off := 190) (tgt := 223) hx hb dL_law_33 (by decide +kernel) (by decide +kernel) (by decide +kernel) (by decide +kernel) ?_
        exact law_c1 l C0 hC hA hbA hK hIx hIm hi hL hP hD hS hl kk
      · refine lv_tableIn (off := 213) (tgt := 246) hx hb dL_law_33 (by decide +kernel) (by decide +kernel) (by decide +kernel) (by decide +kernel) ?_
        exact law_c2 l C0 hC hA hbA hK hIx hIm hi hL hP hD hS hl kk
      · refine lv_tableIn (off := 226) (tgt := 259) hx hb dL_law_33 (by decide +kernel) (by decide +kernel) (by decide +kernel) (by decide +kernel) ?_
        exact law_c3 l C0 hC hA hbA hK hIx hIm hi hL hP hD hS hl kk
      · refine lv_tableIn (off := 249) (tgt := 282) hx hb dL_law_33 (by decide +kernel) (by decide +kernel) (by decide +kernel) (by decide +kernel) ?_
        exact law_c4 l C0 hC hA hbA hK hIx hIm hi hL hP hD hS hl kk
      · refine lv_tableIn (off := 272) (tgt := 305) hx hb dL_law_33 (by decide +kernel) (by decide +kernel) (by decide +kernel) (by decide +kernel) ?_
        exact law_c5 l C0 hC hA hbA hK hIx hIm hi hL hP hD hS hl kk
      · refine lv_tableIn (off := 305) (tgt := 338) hx hb dL_law_33 (by decide +kernel) (by decide +kernel) (by decide +kernel) (by decide +kernel) ?_
        exact law_c6 l C0 hC hA hbA hK hIx hIm hi hL hP hD hS hl kk
      · refine lv_tableIn (off := 338) (tgt := 371) hx hb dL_law_33 (by decide +kernel) (by decide +kernel) (by decide +kernel) (by decide +kernel) ?_
        exact law_c7 l C0 hC hA hbA hK hIx hIm hi hL hP hD hS hl kk
      · refine lv_tableIn (off := 361) (tgt := 394) hx hb dL_law_33 (by decide +kernel) (by decide +kernel) (by decide +kernel) (by decide +kernel) ?_
        exact law_c8 l C0 hC hA hbA hK hIx hIm hi hL hP hD hS hl kk
      · refine lv_tableIn (off := 384) (tgt := 417) hx hb dL_law_33 (by decide +kernel) (by decide +kernel) (by decide +kernel) (by decide +kernel) ?_
        exact law_c9 l C0 hC hA hbA hK hIx hIm hi hL hP hD hS hl kk
      · refine lv_tableIn (off := 407) (tgt := 440) hx hb dL_law_33 (by decide +kernel) (by decide +kernel) (by decide +kernel) (by decide +kernel) ?_
        exact law_c10 l C0 hC hA hbA hK hIx hIm hi hL hP hD hS hl kk
      · refine lv_tableIn (off := 440) (tgt := 473) hx hb dL_law_33 (by decide +kernel) (by decide +kernel) (by decide +kernel) (by decide +kernel) ?_
        exact law_c11 l C0 hC hA hbA hK hIx hIm hi hL hP hD hS hl kk
      · refine lv_tableIn (off := 473) (tgt := 506) hx hb dL_law_33 (by decide +kernel) (by decide +kernel) (by decide +kernel) (by decide +kernel) ?_
        exact law_c12 l C0 hC hA hbA hK hIx hIm hi hL hP hD hS hl kk
      · refine lv_tableIn (off := 496) (tgt := 529) hx hb dL_law_33 (by decide +kernel) (by decide +kernel) (by decide +kernel) (by decide +kernel) ?_
        exact law_c13 l C0 hC hA hbA hK hIx hIm hi hL hP hD hS hl kk
      · refine lv_tableIn (off := 519) (tgt := 552) hx hb dL_law_33 (by decide +kernel) (by decide +kernel) (by decide +kernel) (by decide +kernel) ?_
        exact law_c14 l C0 hC hA hbA hK hIx hIm hi hL hP hD hS hl kk
      · refine lv_tableIn (off := 542) (tgt := 575) hx hb dL_law_33 (by decide +kernel) (by decide +kernel) (by decide +kernel) (by decide +kernel) ?_
        exact law_c15 l C0 hC hA hbA hK hIx hIm hi hL hP hD hS hl kk
      · refine lv_tableIn (off := 565) (tgt := 598) hx hb dL_law_33 (by decide +kernel) (by decide +kernel) (by decide +kernel) (by decide +kernel) ?_
        exact law_c16 l C0 hC hA hbA hK hIx hIm hi hL hP hD hS hl kk
      · refine lv_tableIn (off := 588) (tgt := 621) hx hb dL_law_33 (by decide +kernel) (by decide +kernel) (by decide +kernel) (by decide +kernel) ?_
        exact law_c17 l C0 hC hA hbA hK hIx hIm hi hL hP hD hS hl kk
      · refine lv_tableIn (off := 621) (tgt := 654) hx hb dL_law_33 (by decide +kernel) (by decide +kernel) (by decide +kernel) (by decide +kernel) ?_
        exact law_c18 l C0 hC hA hbA hK hIx hIm hi hL hP hD hS hl kk
      · refine lv_tableIn (off := 664) (tgt := 697) hx hb dL_law_33 (by decide +kernel) (by decide +kernel) (by decide +kernel) (by decide +kernel) ?_
        exact law_c19 l C0 hC hA hbA hK hIx hIm hi hL hP hD hS hl kk
      · refine lv_tableIn (off := 677) (tgt := 710) hx hb dL_law_33 (by decide +kernel) (by decide +kernel) (by decide +kernel) (by decide +kernel) ?_
        exact law_c20 l C0 hC hA hbA hK hIx hIm hi hL hP hD hS hl kk
      · refine lv_tableIn (off := 690) (tgt := 723) hx hb dL_law_33 (by decide +kernel) (by decide +kernel) (by decide +kernel) (by decide +kernel) ?_
        exact law_c21 l C0 hC hA hbA hK hIx hIm hi hL hP hD hS hl kk
      · refine lv_tableIn (off := 749) (tgt := 782) hx hb dL_law_33 (by decide +kernel) (by decide +kernel) (by decide +kernel) (by decide +kernel) ?_
        exact law_c22 l C0 hC hA hbA hK hIx hIm hi hL hP hD hS hl kk
      · refine lv_tableIn (off := 772) (tgt := 805) hx hb dL_law_33 (by decide +kernel) (by decide +kernel) (by decide +kernel) (by decide +kernel) ?_
        exact law_c23 l C0 hC hA hbA hK hIx hIm hi hL hP hD hS hl kk
      · refine lv_tableIn (off := 795) (tgt := 828) hx hb dL_law_33 (by decide +kernel) (by decide +kernel) (by decide +kernel) (by decide +kernel) ?_
        exact law_c24 l C0 hC hA hbA hK hIx hIm hi hL hP hD hS hl kk
      · refine lv_tableIn (off := 828) (tgt := 861) hx hb dL_law_33 (by decide +kernel) (by decide +kernel) (by decide +kernel) (by decide +kernel) ?_
        exact law_c25 l C0 hC hA hbA hK hIx hIm hi hL hP hD hS hl kk
      · refine lv_tableIn (off := 851) (tgt := 884) hx hb dL_law_33 (by decide +kernel) (by decide +kernel) (by decide +kernel) (by decide +kernel) ?_
        exact law_c26 l C0 hC hA hbA hK hIx hIm hi hL hP hD hS hl kk
      · refine lv_tableIn (off := 874) (tgt := 907) hx hb dL_law_33 (by decide +kernel) (by decide +kernel) (by decide +kernel) (by decide +kernel) ?_
        exact law_c27 l C0 hC hA hbA hK hIx hIm hi hL hP hD hS hl kk
      · refine lv_tableOut (tgt := 930) hx hb dL_law_33 (by decide +kernel) (by decide +kernel) ?_
        exact kk tm w v H locs ls hIx hIm hP hD hS hl
      · refine lv_tableOut (tgt := 930) hx hb dL_law_33 (by decide +kernel) (by decide +kernel) ?_
        exact kk tm w v H locs ls hIx hIm hP hD hS hl
      · refine lv_tableOut (tgt := 930) hx hb dL_law_33 (by decide +kernel) (by decide +kernel) ?_
        exact kk tm w v H locs ls hIx hIm hP hD hS hl
      · refine lv_tableOut (tgt := 930) hx hb dL_law_33 (by decide +kernel) (by decide +kernel) ?_
        exact kk tm w v H locs ls hIx hIm hP hD hS hl
