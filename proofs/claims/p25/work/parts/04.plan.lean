theorem dX2_clear_0 : decode cX2_clear 0 = .ok (.aload_n 0, 1) := by decide +kernel
theorem dX2_clear_1 : decode cX2_clear 1 = .ok (.iconst 1, 1) := by decide +kernel
theorem dX2_clear_2 : decode cX2_clear 2 = .ok (.putfield 9, 3) := by decide +kernel
theorem dX2_clear_5 : decode cX2_clear 5 = .ok (.aload_n 0, 1) := by decide +kernel
theorem dX2_clear_6 : decode cX2_clear 6 = .ok (.iconst 0, 1) := by decide +kernel
theorem dX2_clear_7 : decode cX2_clear 7 = .ok (.putfield 15, 3) := by decide +kernel
theorem dX2_clear_10 : decode cX2_clear 10 = .ok (.aload_n 0, 1) := by decide +kernel
theorem dX2_clear_11 : decode cX2_clear 11 = .ok (.iconst 0, 1) := by decide +kernel
theorem dX2_clear_12 : decode cX2_clear 12 = .ok (.putfield 18, 3) := by decide +kernel
theorem dX2_clear_15 : decode cX2_clear 15 = .ok (.aload_n 0, 1) := by decide +kernel
theorem dX2_clear_16 : decode cX2_clear 16 = .ok (.iconst 0, 1) := by decide +kernel
theorem dX2_clear_17 : decode cX2_clear 17 = .ok (.putfield 21, 3) := by decide +kernel
theorem dX2_clear_20 : decode cX2_clear 20 = .ok (.aload_n 0, 1) := by decide +kernel
theorem dX2_clear_21 : decode cX2_clear 21 = .ok (.iconst 0, 1) := by decide +kernel
theorem dX2_clear_22 : decode cX2_clear 22 = .ok (.putfield 24, 3) := by decide +kernel
theorem dX2_clear_25 : decode cX2_clear 25 = .ok (.return_, 1) := by decide +kernel
theorem dX2_isBudgeted_0 : decode cX2_isBudgeted 0 = .ok (.aload_n 0, 1) := by decide +kernel
theorem dX2_isBudgeted_1 : decode cX2_isBudgeted 1 = .ok (.getfield 31, 3) := by decide +kernel
theorem dX2_isBudgeted_4 : decode cX2_isBudgeted 4 = .ok (.iload_n 1, 1) := by decide +kernel
theorem dX2_isBudgeted_5 : decode cX2_isBudgeted 5 = .ok (.iaload, 1) := by decide +kernel
theorem dX2_isBudgeted_6 : decode cX2_isBudgeted 6 = .ok (.bipush 7, 2) := by decide +kernel
theorem dX2_isBudgeted_8 : decode cX2_isBudgeted 8 = .ok (.if_icmp .eq 14, 3) := by decide +kernel
theorem dX2_isBudgeted_11 : decode cX2_isBudgeted 11 = .ok (.aload_n 0, 1) := by decide +kernel
theorem dX2_isBudgeted_12 : decode cX2_isBudgeted 12 = .ok (.getfield 31, 3) := by decide +kernel
theorem dX2_isBudgeted_15 : decode cX2_isBudgeted 15 = .ok (.iload_n 1, 1) := by decide +kernel
theorem dX2_isBudgeted_16 : decode cX2_isBudgeted 16 = .ok (.iaload, 1) := by decide +kernel
theorem dX2_isBudgeted_17 : decode cX2_isBudgeted 17 = .ok (.bipush 8, 2) := by decide +kernel
theorem dX2_isBudgeted_19 : decode cX2_isBudgeted 19 = .ok (.if_icmp .ne 7, 3) := by decide +kernel
theorem dX2_isBudgeted_22 : decode cX2_isBudgeted 22 = .ok (.iconst 1, 1) := by decide +kernel
theorem dX2_isBudgeted_23 : decode cX2_isBudgeted 23 = .ok (.goto 4, 3) := by decide +kernel
theorem dX2_isBudgeted_26 : decode cX2_isBudgeted 26 = .ok (.iconst 0, 1) := by decide +kernel
theorem dX2_isBudgeted_27 : decode cX2_isBudgeted 27 = .ok (.ireturn, 1) := by decide +kernel
theorem iw_X2_clear_2 : ∀ w ∈ u_ws RX2 TX2 14, w ∈ wsX2_clear := by decide +kernel
set_option maxHeartbeats 4000000 in
set_option maxRecDepth 100000 in
/-- Plan.clear -/
theorem s_X2_clear (l : Launch) (D : va_G) (ca : Nat → ClassId) (sz : Nat) (h0 : Nat) (p5 : Nat) (p6 : Nat) (p7 : Nat) (p8 : Nat) (p9 : Nat) (p10 : Nat) (p11 : Nat) (p12 : Nat) (p13 : Nat) (kc : Nat) (kl : Nat) (kn : Nat) (ko : Nat) (xb : Int32) : Met l yX2_clear wsX2_clear ({ frames := 0, cells := 0, slots := 0, locals := 0 }) (PC [.ref h0] sz D ca [(h0, .inr (2, [.int (nI kc), .int (nI kl), .int xb, .int (nI kn), .int (nI ko), .ref p5, .ref p6, .ref p7, .ref p8, .ref p9, .ref p10, .ref p11, .ref p12, .ref p13]))]) (QV (fun (u : Unit) => True) (fun (_ : Unit) => [(h0, .inr (2, [.int 1, .int 0, .int 0, .int 0, .int 0, .ref p5, .ref p6, .ref p7, .ref p8, .ref p9, .ref p10, .ref p11, .ref p12, .ref p13]))]) [(h0, .inr (2, [.int (nI kc), .int (nI kl), .int xb, .int (nI kn), .int (nI ko), .ref p5, .ref p6, .ref p7, .ref p8, .ref p9, .ref p10, .ref p11, .ref p12, .ref p13]))] sz D) 0 0 (va_A [(h0, .inr (2, [.int (nI kc), .int (nI kl), .int xb, .int (nI kn), .int (nI ko), .ref p5, .ref p6, .ref p7, .ref p8, .ref p9, .ref p10, .ref p11, .ref p12, .ref p13]))] sz) := by
  refine Met.ofW (cc := cX2_clear) (maxL := 1) (ret := none) (by decide +kernel) rfl ?_
  intro p e s m args below meth c s₁ B hml hv
  obtain ⟨rfl, hsz, hP, hC, hD0⟩ := hv
  have hx := B.exec
  have hb := B.bytes
  have hr := B.returns
  have hts := atoms_spec (ws := wsX2_clear) B.pre
  have hown : s.vm.findClass RX2 = some m.cls := findClass_of_methodNamed B.named
  have hlocks := B.notSynchronized
  subst hsz
  have hD := hD0.self (sz := s.heap.size)
  dsimp only [QV, QI, QL, BQ]
  generalize hAe : va_A [(h0, .inr (2, [.int (nI kc), .int (nI kl), .int xb, .int (nI kn), .int (nI ko), .ref p5, .ref p6, .ref p7, .ref p8, .ref p9, .ref p10, .ref p11, .ref p12, .ref p13]))] s.heap.size = A at hD ⊢
  have hA : ∀ q : Nat, s.heap.size ≤ q → A q := fun q h => by rw [← hAe]; exact Or.inr h
  have hDA : ∀ {w : va_W}, va_D A w → va_D (va_A [(h0, .inr (2, [.int (nI kc), .int (nI kl), .int xb, .int (nI kn), .int (nI ko), .ref p5, .ref p6, .ref p7, .ref p8, .ref p9, .ref p10, .ref p11, .ref p12, .ref p13]))] s.heap.size) w := fun h => by rw [hAe]; exact h
  have hS : va_S A s.heap s.heap [] := va_S.rf
  have hP : va_P D vwCl [(h0, .inr (2, [.int (nI kc), .int (nI kl), .int xb, .int (nI kn), .int (nI ko), .ref p5, .ref p6, .ref p7, .ref p8, .ref p9, .ref p10, .ref p11, .ref p12, .ref p13]))] s.heap := hP
  have hl := lv_entry ([.ref h0]) (n := 1) (Nat.le_of_ble_eq_true rfl)
  rw [lg_entry_eq]
  generalize (lg_sl ([.ref h0]) ++ List.replicate (1 - (lg_sl ([.ref h0])).length) Slot.unset).toArray = ls at hl ⊢
  have hl : lv_has ls 1 [(0, .ref h0)] := hl
  refine lv_aload_n hx hb dX2_clear_0 rfl (lv_at hl 0 rfl) ?_
  refine lv_iconst (v := 1) hx hb dX2_clear_1 (by decide +kernel) ?_
  refine va_put (D := D) (ci := 2) (v := .int 1) (ty := .int) (C := RX2) (T := TX2) (N := 14) hx hb hts iw_X2_clear_2 tyX2 tyX2_ok nmX2 hown hC.1 hP hD hS 0 rfl rfl 0 (by decide +kernel) (hts (.fieldLink RX2 9 "FairWheel$Plan" "cores" "I") (by decide +kernel)) (fun _ h9 => h9) rfl (by decide +kernel) rfl rfl (Nat.le_of_ble_eq_true rfl) dX2_clear_2 (fun H locs hP hD hS => ?_)
  have hP : va_P D vwCl [(h0, .inr (2, [.int 1, .int (nI kl), .int xb, .int (nI kn), .int (nI ko), .ref p5, .ref p6, .ref p7, .ref p8, .ref p9, .ref p10, .ref p11, .ref p12, .ref p13]))] H := hP
  have hD : va_D A [(h0, .inr (2, [.int 1, .int (nI kl), .int xb, .int (nI kn), .int (nI ko), .ref p5, .ref p6, .ref p7, .ref p8, .ref p9, .ref p10, .ref p11, .ref p12, .ref p13]))] := hD
  refine lv_aload_n hx hb dX2_clear_5 rfl (lv_at hl 0 rfl) ?_
  refine lv_iconst (v := 0) hx hb dX2_clear_6 (by decide +kernel) ?_
  refine va_put (D := D) (ci := 2) (v := .int 0) (ty := .int) (C := RX2) (T := TX2) (N := 14) hx hb hts iw_X2_clear_2 tyX2 tyX2_ok nmX2 hown hC.1 hP hD hS 0 rfl rfl 1 (by decide +kernel) (hts (.fieldLink RX2 15 "FairWheel$Plan" "locks" "I") (by decide +kernel)) (fun _ h9 => h9) rfl (by decide +kernel) rfl rfl (Nat.le_of_ble_eq_true rfl) dX2_clear_7 (fun H locs hP hD hS => ?_)
  have hP : va_P D vwCl [(h0, .inr (2, [.int 1, .int 0, .int xb, .int (nI kn), .int (nI ko), .ref p5, .ref p6, .ref p7, .ref p8, .ref p9, .ref p10, .ref p11, .ref p12, .ref p13]))] H := hP
  have hD : va_D A [(h0, .inr (2, [.int 1, .int 0, .int xb, .int (nI kn), .int (nI ko), .ref p5, .ref p6, .ref p7, .ref p8, .ref p9, .ref p10, .ref p11, .ref p12, .ref p13]))] := hD
  refine lv_aload_n hx hb dX2_clear_10 rfl (lv_at hl 0 rfl) ?_
  refine lv_iconst (v := 0) hx hb dX2_clear_11 (by decide +kernel) ?_
  refine va_put (D := D) (ci := 2) (v := .int 0) (ty := .int) (C := RX2) (T := TX2) (N := 14) hx hb hts iw_X2_clear_2 tyX2 tyX2_ok nmX2 hown hC.1 hP hD hS 0 rfl rfl 2 (by decide +kernel) (hts (.fieldLink RX2 18 "FairWheel$Plan" "bells" "I") (by decide +kernel)) (fun _ h9 => h9) rfl (by decide +kernel) rfl rfl (Nat.le_of_ble_eq_true rfl) dX2_clear_12 (fun H locs hP hD hS => ?_)
  have hP : va_P D vwCl [(h0, .inr (2, [.int 1, .int 0, .int 0, .int (nI kn), .int (nI ko), .ref p5, .ref p6, .ref p7, .ref p8, .ref p9, .ref p10, .ref p11, .ref p12, .ref p13]))] H := hP
  have hD : va_D A [(h0, .inr (2, [.int 1, .int 0, .int 0, .int (nI kn), .int (nI ko), .ref p5, .ref p6, .ref p7, .ref p8, .ref p9, .ref p10, .ref p11, .ref p12, .ref p13]))] := hD
  refine lv_aload_n hx hb dX2_clear_15 rfl (lv_at hl 0 rfl) ?_
  refine lv_iconst (v := 0) hx hb dX2_clear_16 (by decide +kernel) ?_
  refine va_put (D := D) (ci := 2) (v := .int 0) (ty := .int) (C := RX2) (T := TX2) (N := 14) hx hb hts iw_X2_clear_2 tyX2 tyX2_ok nmX2 hown hC.1 hP hD hS 0 rfl rfl 3 (by decide +kernel) (hts (.fieldLink RX2 21 "FairWheel$Plan" "count" "I") (by decide +kernel)) (fun _ h9 => h9) rfl (by decide +kernel) rfl rfl (Nat.le_of_ble_eq_true rfl) dX2_clear_17 (fun H locs hP hD hS => ?_)
  have hP : va_P D vwCl [(h0, .inr (2, [.int 1, .int 0, .int 0, .int 0, .int (nI ko), .ref p5, .ref p6, .ref p7, .ref p8, .ref p9, .ref p10, .ref p11, .ref p12, .ref p13]))] H := hP
  have hD : va_D A [(h0, .inr (2, [.int 1, .int 0, .int 0, .int 0, .int (nI ko), .ref p5, .ref p6, .ref p7, .ref p8, .ref p9, .ref p10, .ref p11, .ref p12, .ref p13]))] := hD
  refine lv_aload_n hx hb dX2_clear_20 rfl (lv_at hl 0 rfl) ?_
  refine lv_iconst (v := 0) hx hb dX2_clear_21 (by decide +kernel) ?_
  refine va_put (D := D) (ci := 2) (v := .int 0) (ty := .int) (C := RX2) (T := TX2) (N := 14) hx hb hts iw_X2_clear_2 tyX2 tyX2_ok nmX2 hown hC.1 hP hD hS 0 rfl rfl 4 (by decide +kernel) (hts (.fieldLink RX2 24 "FairWheel$Plan" "ops" "I") (by decide +kernel)) (fun _ h9 => h9) rfl (by decide +kernel) rfl rfl (Nat.le_of_ble_eq_true rfl) dX2_clear_22 (fun H locs hP hD hS => ?_)
  have hP : va_P D vwCl [(h0, .inr (2, [.int 1, .int 0, .int 0, .int 0, .int 0, .ref p5, .ref p6, .ref p7, .ref p8, .ref p9, .ref p10, .ref p11, .ref p12, .ref p13]))] H := hP
  have hD : va_D A [(h0, .inr (2, [.int 1, .int 0, .int 0, .int 0, .int 0, .ref p5, .ref p6, .ref p7, .ref p8, .ref p9, .ref p10, .ref p11, .ref p12, .ref p13]))] := hD
  exact W.vret hx hb hr (fun t ht hW => ⟨⟨(), rfl, trivial, by rw [ht]; exact hP.sub [0] rfl, hDA (hD.sub [0] (by decide +kernel) rfl)⟩, hS.F ht⟩) hS.2.2 dX2_clear_25
theorem iw_X2_isBudgeted_2 : ∀ w ∈ u_ws RX2 TX2 14, w ∈ wsX2_isBudgeted := by decide +kernel
set_option maxHeartbeats 4000000 in
set_option maxRecDepth 100000 in
/-- Plan.isBudgeted -/
theorem s_X2_isBudgeted (l : Launch) (D : va_G) (ca : Nat → ClassId) (sz : Nat) (h0 : Nat) (p5 : Nat) (p6 : Nat) (p7 : Nat) (p8 : Nat) (p9 : Nat) (p10 : Nat) (p11 : Nat) (p12 : Nat) (p13 : Nat) (kc : Nat) (kl : Nat) (kn : Nat) (ko : Nat) (xb : Int32) (fp6 : Nat → Int32) (k : Nat) (hk : k < 10) : Met l yX2_isBudgeted wsX2_isBudgeted ({ frames := 0, cells := 0, slots := 0, locals := 0 }) (PC [.ref h0, .int (nI k)] sz D ca [(h0, .inr (2, [.int (nI kc), .int (nI kl), .int xb, .int (nI kn), .int (nI ko), .ref p5, .ref p6, .ref p7, .ref p8, .ref p9, .ref p10, .ref p11, .ref p12, .ref p13])), (p6, .inl (ca 1, 10, .inl fp6))]) (QI (fun (r : Int32) (u : Unit) => r = 0 ∨ r = 1) (fun (_ : Unit) => [(h0, .inr (2, [.int (nI kc), .int (nI kl), .int xb, .int (nI kn), .int (nI ko), .ref p5, .ref p6, .ref p7, .ref p8, .ref p9, .ref p10, .ref p11, .ref p12, .ref p13])), (p6, .inl (ca 1, 10, .inl fp6))]) [(h0, .inr (2, [.int (nI kc), .int (nI kl), .int xb, .int (nI kn), .int (nI ko), .ref p5, .ref p6, .ref p7, .ref p8, .ref p9, .ref p10, .ref p11, .ref p12, .ref p13])), (p6, .inl (ca 1, 10, .inl fp6))] sz D) 0 0 (va_A [(h0, .inr (2, [.int (nI kc), .int (nI kl), .int xb, .int (nI kn), .int (nI ko), .ref p5, .ref p6, .ref p7, .ref p8, .ref p9, .ref p10, .ref p11, .ref p12, .ref p13])), (p6, .inl (ca 1, 10, .inl fp6))] sz) := by
  refine Met.ofW (cc := cX2_isBudgeted) (maxL := 2) (ret := (some .boolean)) (by decide +kernel) rfl ?_
  intro p e s m args below meth c s₁ B hml hv
  obtain ⟨rfl, hsz, hP, hC, hD0⟩ := hv
  have hx := B.exec
  have hb := B.bytes
  have hr := B.returns
  have hts := atoms_spec (ws := wsX2_isBudgeted) B.pre
  have hown : s.vm.findClass RX2 = some m.cls := findClass_of_methodNamed B.named
  have hlocks := B.notSynchronized
  subst hsz
  have hD := hD0.self (sz := s.heap.size)
  dsimp only [QV, QI, QL, BQ]
  generalize hAe : va_A [(h0, .inr (2, [.int (nI kc), .int (nI kl), .int xb, .int (nI kn), .int (nI ko), .ref p5, .ref p6, .ref p7, .ref p8, .ref p9, .ref p10, .ref p11, .ref p12, .ref p13])), (p6, .inl (ca 1, 10, .inl fp6))] s.heap.size = A at hD ⊢
  have hA : ∀ q : Nat, s.heap.size ≤ q → A q := fun q h => by rw [← hAe]; exact Or.inr h
  have hDA : ∀ {w : va_W}, va_D A w → va_D (va_A [(h0, .inr (2, [.int (nI kc), .int (nI kl), .int xb, .int (nI kn), .int (nI ko), .ref p5, .ref p6, .ref p7, .ref p8, .ref p9, .ref p10, .ref p11, .ref p12, .ref p13])), (p6, .inl (ca 1, 10, .inl fp6))] s.heap.size) w := fun h => by rw [hAe]; exact h
  have hS : va_S A s.heap s.heap [] := va_S.rf
  have hP : va_P D vwCl [(h0, .inr (2, [.int (nI kc), .int (nI kl), .int xb, .int (nI kn), .int (nI ko), .ref p5, .ref p6, .ref p7, .ref p8, .ref p9, .ref p10, .ref p11, .ref p12, .ref p13])), (p6, .inl (ca 1, 10, .inl fp6))] s.heap := hP
  have hl := lv_entry ([.ref h0, .int (nI k)]) (n := 2) (Nat.le_of_ble_eq_true rfl)
  rw [lg_entry_eq]
  generalize (lg_sl ([.ref h0, .int (nI k)]) ++ List.replicate (2 - (lg_sl ([.ref h0, .int (nI k)])).length) Slot.unset).toArray = ls at hl ⊢
  have hl : lv_has ls 2 [(0, .ref h0), (1, .int (nI k))] := hl
  refine lv_aload_n hx hb dX2_isBudgeted_0 rfl (lv_at hl 0 rfl) ?_
  refine va_get (D := D) (ci := 2) (v := .ref p6) (C := RX2) (T := TX2) (N := 14) hx hb hts iw_X2_isBudgeted_2 hown hC.1 hP 0 rfl rfl 6 (by decide +kernel) (hts (.fieldLink RX2 31 "FairWheel$Plan" "kinds" "[I") (by decide +kernel)) (fun _ h9 => h9) rfl dX2_isBudgeted_1 ?_
  refine lv_iload_n hx hb dX2_isBudgeted_4 rfl (lv_at hl 1 rfl) ?_
  refine ka_iald hx hb hC.1 hP 1 1 rfl rfl k rfl (by omega) (by decide +kernel) dX2_isBudgeted_5 ?_
  refine lv_bipush (v := 7) hx hb dX2_isBudgeted_6 (by decide +kernel) ?_
  refine lv_icmp_eq (tgt := 22) hx hb dX2_isBudgeted_8 (by decide +kernel) (fun c_1 => ?_) (fun c_1 => ?_)
  · refine lv_iconst (v := 1) hx hb dX2_isBudgeted_22 (by decide +kernel) ?_
    refine lv_goto (tgt := 27) hx hb dX2_isBudgeted_23 (by decide +kernel) ?_
    exact W.zret (v := 1) hx hb hr (rfl) (fun t ht hW => ⟨⟨1, (), rfl, (Or.inr rfl), by rw [ht]; exact hP.sub [0, 1] rfl, hDA (hD.sub [0, 1] (by decide +kernel) rfl)⟩, hS.F ht⟩) hS.2.2 dX2_isBudgeted_27
  · refine lv_aload_n hx hb dX2_isBudgeted_11 rfl (lv_at hl 0 rfl) ?_
    refine va_get (D := D) (ci := 2) (v := .ref p6) (C := RX2) (T := TX2) (N := 14) hx hb hts iw_X2_isBudgeted_2 hown hC.1 hP 0 rfl rfl 6 (by decide +kernel) (hts (.fieldLink RX2 31 "FairWheel$Plan" "kinds" "[I") (by decide +kernel)) (fun _ h9 => h9) rfl dX2_isBudgeted_12 ?_
    refine lv_iload_n hx hb dX2_isBudgeted_15 rfl (lv_at hl 1 rfl) ?_
    refine ka_iald hx hb hC.1 hP 1 1 rfl rfl k rfl (by omega) (by decide +kernel) dX2_isBudgeted_16 ?_
    refine lv_bipush (v := 8) hx hb dX2_isBudgeted_17 (by decide +kernel) ?_
    refine lv_icmp_ne (tgt := 26) hx hb dX2_isBudgeted_19 (by decide +kernel) (fun c_2 => ?_) (fun c_2 => ?_)
    · refine lv_iconst (v := 0) hx hb dX2_isBudgeted_26 (by decide +kernel) ?_
      exact W.zret (v := 0) hx hb hr (rfl) (fun t ht hW => ⟨⟨0, (), rfl, (Or.inl rfl), by rw [ht]; exact hP.sub [0, 1] rfl, hDA (hD.sub [0, 1] (by decide +kernel) rfl)⟩, hS.F ht⟩) hS.2.2 dX2_isBudgeted_27
    · refine lv_iconst (v := 1) hx hb dX2_isBudgeted_22 (by decide +kernel) ?_
      refine lv_goto (tgt := 27) hx hb dX2_isBudgeted_23 (by decide +kernel) ?_
      exact W.zret (v := 1) hx hb hr (rfl) (fun t ht hW => ⟨⟨1, (), rfl, (Or.inr rfl), by rw [ht]; exact hP.sub [0, 1] rfl, hDA (hD.sub [0, 1] (by decide +kernel) rfl)⟩, hS.F ht⟩) hS.2.2 dX2_isBudgeted_27
