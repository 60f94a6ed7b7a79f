theorem dX2_clear_0 : decode cX2_clear 0 = .ok (.aload_n 0, 1) := by decide +kernel
theorem dX2_clear_1 : decode cX2_clear 1 = .ok (.iconst 1, 1) := by decide +kernel
theorem dX2_clear_2 : decode cX2_clear 2 = .ok (.putfield 9, 3) := by decide +kernel
theorem dX2_clear_5 : decode cX2_clear 5 = .ok (.aload_n 0, 1) := by decide +kernel
theorem dX2_clear_6 : decode cX2_clear 6 = .ok (.iconst 0, 1) := by decide +kernel
theorem dX2_clear_7 : decode cX2_clear 7 = .ok (.putfield 15, 3) := by decide +kernel
theorem dX2_clear_10 : decode cX2_clear 10 = .ok (.aload_n 0, 1) := by decide +kernel
theorem dX2_clear_11 : decode cX2_clear 11 = .ok (.iconst 0, 1) := by decide +kernel
theorem dX2_clear_12 : decode cX2_clear 12 = .ok (.putfield 18, 3) := by decide +kernel
theorem dX2_clear_15 : decode cX2_clear 15 = .ok (.aload_n 0, 1) := by decide +kernel
theorem dX2_clear_16 : decode cX2_clear 16 = .ok (.iconst 0, 1) := by decide +kernel
theorem dX2_clear_17 : decode cX2_clear 17 = .ok (.putfield 21, 3) := by decide +kernel
theorem dX2_clear_20 : decode cX2_clear 20 = .ok (.aload_n 0, 1) := by decide +kernel
theorem dX2_clear_21 : decode cX2_clear 21 = .ok (.iconst 0, 1) := by decide +kernel
theorem dX2_clear_22 : decode cX2_clear 22 = .ok (.putfield 24, 3) := by decide +kernel
theorem dX2_clear_25 : decode cX2_clear 25 = .ok (.return_, 1) := by decide +kernel
theorem dX2_isBudgeted_0 : decode cX2_isBudgeted 0 = .ok (.aload_n 0, 1) := by decide +kernel
theorem dX2_isBudgeted_1 : decode cX2_isBudgeted 1 = .ok (.getfield 31, 3) := by decide +kernel
theorem dX2_isBudgeted_4 : decode cX2_isBudgeted 4 = .ok (.iload_n 1, 1) := by decide +kernel
theorem dX2_isBudgeted_5 : decode cX2_isBudgeted 5 = .ok (.iaload, 1) := by decide +kernel
theorem dX2_isBudgeted_6 : decode cX2_isBudgeted 6 = .ok (.bipush 7, 2) := by decide +kernel
theorem dX2_isBudgeted_8 : decode cX2_isBudgeted 8 = .ok (.if_icmp .eq 14, 3) := by decide +kernel
theorem dX2_isBudgeted_11 : decode cX2_isBudgeted 11 = .ok (.aload_n 0, 1) := by decide +kernel
theorem dX2_isBudgeted_12 : decode cX2_isBudgeted 12 = .ok (.getfield 31, 3) := by decide +kernel
theorem dX2_isBudgeted_15 : decode cX2_isBudgeted 15 = .ok (.iload_n 1, 1) := by decide +kernel
theorem dX2_isBudgeted_16 : decode cX2_isBudgeted 16 = .ok (.iaload, 1) := by decide +kernel
theorem dX2_isBudgeted_17 : decode cX2_isBudgeted 17 = .ok (.bipush 8, 2) := by decide +kernel
theorem dX2_isBudgeted_19 : decode cX2_isBudgeted 19 = .ok (.if_icmp .ne 7, 3) := by decide +kernel
theorem dX2_isBudgeted_22 : decode cX2_isBudgeted 22 = .ok (.iconst 1, 1) := by decide +kernel
theorem dX2_isBudgeted_23 : decode cX2_isBudgeted 23 = .ok (.goto 4, 3) := by decide +kernel
theorem dX2_isBudgeted_26 : decode cX2_isBudgeted 26 = .ok (.iconst 0, 1) := by decide +kernel
theorem dX2_isBudgeted_27 : decode cX2_isBudgeted 27 = .ok (.ireturn, 1) := by decide +kernel
theorem dX2_opAt_0 : decode cX2_opAt 0 = .ok (.aload_n 0, 1) := by decide +kernel
theorem dX2_opAt_1 : decode cX2_opAt 1 = .ok (.getfield 44, 3) := by decide +kernel
theorem dX2_opAt_4 : decode cX2_opAt 4 = .ok (.iload_n 1, 1) := by decide +kernel
theorem dX2_opAt_5 : decode cX2_opAt 5 = .ok (.iaload, 1) := by decide +kernel
theorem dX2_opAt_6 : decode cX2_opAt 6 = .ok (.iload_n 2, 1) := by decide +kernel
theorem dX2_opAt_7 : decode cX2_opAt 7 = .ok (.iadd, 1) := by decide +kernel
theorem dX2_opAt_8 : decode cX2_opAt 8 = .ok (.istore_n 3, 1) := by decide +kernel
theorem dX2_opAt_9 : decode cX2_opAt 9 = .ok (.iload_n 2, 1) := by decide +kernel
theorem dX2_opAt_10 : decode cX2_opAt 10 = .ok (.ifCond .lt 26, 3) := by decide +kernel
theorem dX2_opAt_13 : decode cX2_opAt 13 = .ok (.iload_n 2, 1) := by decide +kernel
theorem dX2_opAt_14 : decode cX2_opAt 14 = .ok (.aload_n 0, 1) := by decide +kernel
theorem dX2_opAt_15 : decode cX2_opAt 15 = .ok (.getfield 47, 3) := by decide +kernel
theorem dX2_opAt_18 : decode cX2_opAt 18 = .ok (.iload_n 1, 1) := by decide +kernel
theorem dX2_opAt_19 : decode cX2_opAt 19 = .ok (.iaload, 1) := by decide +kernel
theorem dX2_opAt_20 : decode cX2_opAt 20 = .ok (.if_icmp .ge 16, 3) := by decide +kernel
theorem dX2_opAt_23 : decode cX2_opAt 23 = .ok (.iload_n 3, 1) := by decide +kernel
theorem dX2_opAt_24 : decode cX2_opAt 24 = .ok (.ifCond .lt 12, 3) := by decide +kernel
theorem dX2_opAt_27 : decode cX2_opAt 27 = .ok (.iload_n 3, 1) := by decide +kernel
theorem dX2_opAt_28 : decode cX2_opAt 28 = .ok (.aload_n 0, 1) := by decide +kernel
theorem dX2_opAt_29 : decode cX2_opAt 29 = .ok (.getfield 50, 3) := by decide +kernel
theorem dX2_opAt_32 : decode cX2_opAt 32 = .ok (.arraylength, 1) := by decide +kernel
theorem dX2_opAt_33 : decode cX2_opAt 33 = .ok (.if_icmp .lt 7, 3) := by decide +kernel
theorem dX2_opAt_36 : decode cX2_opAt 36 = .ok (.iconst (-1), 1) := by decide +kernel
theorem dX2_opAt_37 : decode cX2_opAt 37 = .ok (.goto 4, 3) := by decide +kernel
theorem dX2_opAt_40 : decode cX2_opAt 40 = .ok (.iload_n 3, 1) := by decide +kernel
theorem dX2_opAt_41 : decode cX2_opAt 41 = .ok (.ireturn, 1) := by decide +kernel
theorem dX2_workAt_0 : decode cX2_workAt 0 = .ok (.iload_n 1, 1) := by decide +kernel
theorem dX2_workAt_1 : decode cX2_workAt 1 = .ok (.iconst (-1), 1) := by decide +kernel
theorem dX2_workAt_2 : decode cX2_workAt 2 = .ok (.if_icmp .eq 14, 3) := by decide +kernel
theorem dX2_workAt_16 : decode cX2_workAt 16 = .ok (.iconst 0, 1) := by decide +kernel
theorem dX2_workAt_17 : decode cX2_workAt 17 = .ok (.goto 9, 3) := by decide +kernel
theorem dX2_workAt_26 : decode cX2_workAt 26 = .ok (.ireturn, 1) := by decide +kernel
theorem dX2_workAt_5 : decode cX2_workAt 5 = .ok (.aload_n 0, 1) := by decide +kernel
theorem dX2_workAt_6 : decode cX2_workAt 6 = .ok (.getfield 50, 3) := by decide +kernel
theorem dX2_workAt_9 : decode cX2_workAt 9 = .ok (.iload_n 1, 1) := by decide +kernel
theorem dX2_workAt_10 : decode cX2_workAt 10 = .ok (.iaload, 1) := by decide +kernel
theorem dX2_workAt_11 : decode cX2_workAt 11 = .ok (.bipush 12, 2) := by decide +kernel
theorem dX2_workAt_13 : decode cX2_workAt 13 = .ok (.if_icmp .eq 7, 3) := by decide +kernel
theorem dX2_workAt_20 : decode cX2_workAt 20 = .ok (.aload_n 0, 1) := by decide +kernel
theorem dX2_workAt_21 : decode cX2_workAt 21 = .ok (.getfield 53, 3) := by decide +kernel
theorem dX2_workAt_24 : decode cX2_workAt 24 = .ok (.iload_n 1, 1) := by decide +kernel
theorem dX2_workAt_25 : decode cX2_workAt 25 = .ok (.iaload, 1) := by decide +kernel
theorem dX2_keepCount_0 : decode cX2_keepCount 0 = .ok (.iload_n 1, 1) := by decide +kernel
theorem dX2_keepCount_1 : decode cX2_keepCount 1 = .ok (.lookupswitch 43 #[(0, 27), (1, 35)], 27) := by decide +kernel
theorem dX2_keepCount_28 : decode cX2_keepCount 28 = .ok (.aload_n 0, 1) := by decide +kernel
theorem dX2_keepCount_29 : decode cX2_keepCount 29 = .ok (.iload_n 2, 1) := by decide +kernel
theorem dX2_keepCount_30 : decode cX2_keepCount 30 = .ok (.putfield 9, 3) := by decide +kernel
theorem dX2_keepCount_33 : decode cX2_keepCount 33 = .ok (.goto 16, 3) := by decide +kernel
theorem dX2_keepCount_49 : decode cX2_keepCount 49 = .ok (.return_, 1) := by decide +kernel
theorem dX2_keepCount_36 : decode cX2_keepCount 36 = .ok (.aload_n 0, 1) := by decide +kernel
theorem dX2_keepCount_37 : decode cX2_keepCount 37 = .ok (.iload_n 2, 1) := by decide +kernel
theorem dX2_keepCount_38 : decode cX2_keepCount 38 = .ok (.putfield 15, 3) := by decide +kernel
theorem dX2_keepCount_41 : decode cX2_keepCount 41 = .ok (.goto 8, 3) := by decide +kernel
theorem dX2_keepCount_44 : decode cX2_keepCount 44 = .ok (.aload_n 0, 1) := by decide +kernel
theorem dX2_keepCount_45 : decode cX2_keepCount 45 = .ok (.iload_n 2, 1) := by decide +kernel
theorem dX2_keepCount_46 : decode cX2_keepCount 46 = .ok (.putfield 18, 3) := by decide +kernel
theorem dX2_hasName_0 : decode cX2_hasName 0 = .ok (.iconst 0, 1) := by decide +kernel
theorem dX2_hasName_1 : decode cX2_hasName 1 = .ok (.istore_n 3, 1) := by decide +kernel
theorem dX2_hasName_2 : decode cX2_hasName 2 = .ok (.iload_n 3, 1) := by decide +kernel
theorem dX2_hasName_3 : decode cX2_hasName 3 = .ok (.aload_n 0, 1) := by decide +kernel
theorem dX2_hasName_4 : decode cX2_hasName 4 = .ok (.getfield 21, 3) := by decide +kernel
theorem dX2_hasName_7 : decode cX2_hasName 7 = .ok (.if_icmp .ge 22, 3) := by decide +kernel
theorem dX2_hasName_10 : decode cX2_hasName 10 = .ok (.aload_n 0, 1) := by decide +kernel
theorem dX2_hasName_11 : decode cX2_hasName 11 = .ok (.getfield 27, 3) := by decide +kernel
theorem dX2_hasName_14 : decode cX2_hasName 14 = .ok (.iload_n 3, 1) := by decide +kernel
theorem dX2_hasName_15 : decode cX2_hasName 15 = .ok (.laload, 1) := by decide +kernel
theorem dX2_hasName_16 : decode cX2_hasName 16 = .ok (.lload_n 1, 1) := by decide +kernel
theorem dX2_hasName_17 : decode cX2_hasName 17 = .ok (.lcmp, 1) := by decide +kernel
theorem dX2_hasName_18 : decode cX2_hasName 18 = .ok (.ifCond .ne 5, 3) := by decide +kernel
theorem dX2_hasName_21 : decode cX2_hasName 21 = .ok (.iconst 1, 1) := by decide +kernel
theorem dX2_hasName_22 : decode cX2_hasName 22 = .ok (.ireturn, 1) := by decide +kernel
theorem dX2_hasName_23 : decode cX2_hasName 23 = .ok (.iinc 3 1, 3) := by decide +kernel
theorem dX2_hasName_26 : decode cX2_hasName 26 = .ok (.goto (-24), 3) := by decide +kernel
theorem dX2_hasName_29 : decode cX2_hasName 29 = .ok (.iconst 0, 1) := by decide +kernel
theorem dX2_hasName_30 : decode cX2_hasName 30 = .ok (.ireturn, 1) := by decide +kernel
theorem iw_X2_clear_2 : ∀ w ∈ u_ws RX2 TX2 14, w ∈ wsX2_clear := by decide +kernel
set_option maxHeartbeats 4000000 in
set_option maxRecDepth 100000 in
/-- Plan.clear -/
theorem s_X2_clear (l : Launch) (D : va_G) (ca : Nat → ClassId) (sz : Nat) (h0 : Nat) (p5 : Nat) (p6 : Nat) (p7 : Nat) (p8 : Nat) (p9 : Nat) (p10 : Nat) (p11 : Nat) (p12 : Nat) (p13 : Nat) (kc : Nat) (kl : Nat) (kn : Nat) (ko : Nat) (xb : Int32) : Met l yX2_clear wsX2_clear ({ frames := 0, cells := 0, slots := 0, locals := 0 }) (PC [.ref h0] sz D ca [(h0, .inr (2, [.int (nI kc), .int (nI kl), .int xb, .int (nI kn), .int (nI ko), .ref p5, .ref p6, .ref p7, .ref p8, .ref p9, .ref p10, .ref p11, .ref p12, .ref p13]))]) (QV (fun (u : Unit) => True) (fun (_ : Unit) => [(h0, .inr (2, [.int 1, .int 0, .int 0, .int 0, .int 0, .ref p5, .ref p6, .ref p7, .ref p8, .ref p9, .ref p10, .ref p11, .ref p12, .ref p13]))]) [(h0, .inr (2, [.int (nI kc), .int (nI kl), .int xb, .int (nI kn), .int (nI ko), .ref p5, .ref p6, .ref p7, .ref p8, .ref p9, .ref p10, .ref p11, .ref p12, .ref p13]))] sz D) 0 0 (va_A [(h0, .inr (2, [.int (nI kc), .int (nI kl), .int xb, .int (nI kn), .int (nI ko), .ref p5, .ref p6, .ref p7, .ref p8, .ref p9, .ref p10, .ref p11, .ref p12, .ref p13]))] sz) := by
  refine Met.ofW (cc := cX2_clear) (maxL := 1) (ret := none) (by decide +kernel) rfl ?_
  intro p e s m args below meth c s₁ B hml hv
  obtain ⟨rfl, hsz, hP, hC, hD0⟩ := hv
  have hx := B.exec
  have hb := B.bytes
  have hr := B.returns
  have hts := atoms_spec (ws := wsX2_clear) B.pre
  have hown : s.vm.findClass RX2 = some m.cls := findClass_of_methodNamed B.named
  have hlocks := B.notSynchronized
  subst hsz
  have hD := hD0.self (sz := s.heap.size)
  dsimp only [QV, QI, QL, BQ]
  generalize hAe : va_A [(h0, .inr (2, [.int (nI kc), .int (nI kl), .int xb, .int (nI kn), .int (nI ko), .ref p5, .ref p6, .ref p7, .ref p8, .ref p9, .ref p10, .ref p11, .ref p12, .ref p13]))] s.heap.size = A at hD ⊢
  have hA : ∀ q : Nat, s.heap.size ≤ q → A q := fun q h => by rw [← hAe]; exact Or.inr h
  have hDA : ∀ {w : va_W}, va_D A w → va_D (va_A [(h0, .inr (2, [.int (nI kc), .int (nI kl), .int xb, .int (nI kn), .int (nI ko), .ref p5, .ref p6, .ref p7, .ref p8, .ref p9, .ref p10, .ref p11, .ref p12, .ref p13]))] s.heap.size) w := fun h => by rw [hAe]; exact h
  have hS : va_S A s.heap s.heap [] := va_S.rf
  have hP : va_P D vwCl [(h0, .inr (2, [.int (nI kc), .int (nI kl), .int xb, .int (nI kn), .int (nI ko), .ref p5, .ref p6, .ref p7, .ref p8, .ref p9, .ref p10, .ref p11, .ref p12, .ref p13]))] s.heap := hP
  have hl := lv_entry ([.ref h0]) (n := 1) (Nat.le_of_ble_eq_true rfl)
  rw [lg_entry_eq]
  generalize (lg_sl ([.ref h0]) ++ List.replicate (1 - (lg_sl ([.ref h0])).length) Slot.unset).toArray = ls at hl ⊢
  have hl : lv_has ls 1 [(0, .ref h0)] := hl
  refine lv_aload_n hx hb dX2_clear_0 rfl (lv_at hl 0 rfl) ?_
  refine lv_iconst (v := 1) hx hb dX2_clear_1 (by decide +kernel) ?_
  refine va_put (D := D) (ci := 2) (v := .int 1) (ty := .int) (C := RX2) (T := TX2) (N := 14) hx hb hts iw_X2_clear_2 tyX2 tyX2_ok nmX2 hown hC.1 hP hD hS 0 rfl rfl 0 (by decide +kernel) (hts (.fieldLink RX2 9 "FairWheel$Plan" "cores" "I") (by decide +kernel)) (fun _ h9 => h9) rfl (by decide +kernel) rfl rfl (Nat.le_of_ble_eq_true rfl) dX2_clear_2 (fun H locs hP hD hS => ?_)
  have hP : va_P D vwCl [(h0, .inr (2, [.int 1, .int (nI kl), .int xb, .int (nI kn), .int (nI ko), .ref p5, .ref p6, .ref p7, .ref p8, .ref p9, .ref p10, .ref p11, .ref p12, .ref p13]))] H := hP
  have hD : va_D A [(h0, .inr (2, [.int 1, .int (nI kl), .int xb, .int (nI kn), .int (nI ko), .ref p5, .ref p6, .ref p7, .ref p8, .ref p9, .ref p10, .ref p11, .ref p12, .ref p13]))] := hD
  refine lv_aload_n hx hb dX2_clear_5 rfl (lv_at hl 0 rfl) ?_
  refine lv_iconst (v := 0) hx hb dX2_clear_6 (by decide +kernel) ?_
  refine va_put (D := D) (ci := 2) (v := .int 0) (ty := .int) (C := RX2) (T := TX2) (N := 14) hx hb hts iw_X2_clear_2 tyX2 tyX2_ok nmX2 hown hC.1 hP hD hS 0 rfl rfl 1 (by decide +kernel) (hts (.fieldLink RX2 15 "FairWheel$Plan" "locks" "I") (by decide +kernel)) (fun _ h9 => h9) rfl (by decide +kernel) rfl rfl (Nat.le_of_ble_eq_true rfl) dX2_clear_7 (fun H locs hP hD hS => ?_)
  have hP : va_P D vwCl [(h0, .inr (2, [.int 1, .int 0, .int xb, .int (nI kn), .int (nI ko), .ref p5, .ref p6, .ref p7, .ref p8, .ref p9, .ref p10, .ref p11, .ref p12, .ref p13]))] H := hP
  have hD : va_D A [(h0, .inr (2, [.int 1, .int 0, .int xb, .int (nI kn), .int (nI ko), .ref p5, .ref p6, .ref p7, .ref p8, .ref p9, .ref p10, .ref p11, .ref p12, .ref p13]))] := hD
  refine lv_aload_n hx hb dX2_clear_10 rfl (lv_at hl 0 rfl) ?_
  refine lv_iconst (v := 0) hx hb dX2_clear_11 (by decide +kernel) ?_
  refine va_put (D := D) (ci := 2) (v := .int 0) (ty := .int) (C := RX2) (T := TX2) (N := 14) hx hb hts iw_X2_clear_2 tyX2 tyX2_ok nmX2 hown hC.1 hP hD hS 0 rfl rfl 2 (by decide +kernel) (hts (.fieldLink RX2 18 "FairWheel$Plan" "bells" "I") (by decide +kernel)) (fun _ h9 => h9) rfl (by decide +kernel) rfl rfl (Nat.le_of_ble_eq_true rfl) dX2_clear_12 (fun H locs hP hD hS => ?_)
  have hP : va_P D vwCl [(h0, .inr (2, [.int 1, .int 0, .int 0, .int (nI kn), .int (nI ko), .ref p5, .ref p6, .ref p7, .ref p8, .ref p9, .ref p10, .ref p11, .ref p12, .ref p13]))] H := hP
  have hD : va_D A [(h0, .inr (2, [.int 1, .int 0, .int 0, .int (nI kn), .int (nI ko), .ref p5, .ref p6, .ref p7, .ref p8, .ref p9, .ref p10, .ref p11, .ref p12, .ref p13]))] := hD
  refine lv_aload_n hx hb dX2_clear_15 rfl (lv_at hl 0 rfl) ?_
  refine lv_iconst (v := 0) hx hb dX2_clear_16 (by decide +kernel) ?_
  refine va_put (D := D) (ci := 2) (v := .int 0) (ty := .int) (C := RX2) (T := TX2) (N := 14) hx hb hts iw_X2_clear_2 tyX2 tyX2_ok nmX2 hown hC.1 hP hD hS 0 rfl rfl 3 (by decide +kernel) (hts (.fieldLink RX2 21 "FairWheel$Plan" "count" "I") (by decide +kernel)) (fun _ h9 => h9) rfl (by decide +kernel) rfl rfl (Nat.le_of_ble_eq_true rfl) dX2_clear_17 (fun H locs hP hD hS => ?_)
  have hP : va_P D vwCl [(h0, .inr (2, [.int 1, .int 0, .int 0, .int 0, .int (nI ko), .ref p5, .ref p6, .ref p7, .ref p8, .ref p9, .ref p10, .ref p11, .ref p12, .ref p13]))] H := hP
  have hD : va_D A [(h0, .inr (2, [.int 1, .int 0, .int 0, .int 0, .int (nI ko), .ref p5, .ref p6, .ref p7, .ref p8, .ref p9, .ref p10, .ref p11, .ref p12, .ref p13]))] := hD
  refine lv_aload_n hx hb dX2_clear_20 rfl (lv_at hl 0 rfl) ?_
  refine lv_iconst (v := 0) hx hb dX2_clear_21 (by decide +kernel) ?_
  refine va_put (D := D) (ci := 2) (v := .int 0) (ty := .int) (C := RX2) (T := TX2) (N := 14) hx hb hts iw_X2_clear_2 tyX2 tyX2_ok nmX2 hown hC.1 hP hD hS 0 rfl rfl 4 (by decide +kernel) (hts (.fieldLink RX2 24 "FairWheel$Plan" "ops" "I") (by decide +kernel)) (fun _ h9 => h9) rfl (by decide +kernel) rfl rfl (Nat.le_of_ble_eq_true rfl) dX2_clear_22 (fun H locs hP hD hS => ?_)
  have hP : va_P D vwCl [(h0, .inr (2, [.int 1, .int 0, .int 0, .int 0, .int 0, .ref p5, .ref p6, .ref p7, .ref p8, .ref p9, .ref p10, .ref p11, .ref p12, .ref p13]))] H := hP
  have hD : va_D A [(h0, .inr (2, [.int 1, .int 0, .int 0, .int 0, .int 0, .ref p5, .ref p6, .ref p7, .ref p8, .ref p9, .ref p10, .ref p11, .ref p12, .ref p13]))] := hD
  exact W.vret hx hb hr (fun t ht hW => ⟨⟨(), rfl, trivial, by rw [ht]; exact hP.sub [0] rfl, hDA (hD.sub [0] (by decide +kernel) rfl)⟩, hS.F ht⟩) hS.2.2 dX2_clear_25
theorem iw_X2_isBudgeted_2 : ∀ w ∈ u_ws RX2 TX2 14, w ∈ wsX2_isBudgeted := by decide +kernel
set_option maxHeartbeats 4000000 in
set_option maxRecDepth 100000 in
/-- Plan.isBudgeted -/
theorem s_X2_isBudgeted (l : Launch) (D : va_G) (ca : Nat → ClassId) (sz : Nat) (h0 : Nat) (p5 : Nat) (p6 : Nat) (p7 : Nat) (p8 : Nat) (p9 : Nat) (p10 : Nat) (p11 : Nat) (p12 : Nat) (p13 : Nat) (kc : Nat) (kl : Nat) (kn : Nat) (ko : Nat) (xb : Int32) (fp6 : Nat → Int32) (k : Nat) (hk : k < 10) : Met l yX2_isBudgeted wsX2_isBudgeted ({ frames := 0, cells := 0, slots := 0, locals := 0 }) (PC [.ref h0, .int (nI k)] sz D ca [(h0, .inr (2, [.int (nI kc), .int (nI kl), .int xb, .int (nI kn), .int (nI ko), .ref p5, .ref p6, .ref p7, .ref p8, .ref p9, .ref p10, .ref p11, .ref p12, .ref p13])), (p6, .inl (ca 1, 10, .inl fp6))]) (QI (fun (r : Int32) (u : Unit) => r = 0 ∨ r = 1) (fun (_ : Unit) => [(h0, .inr (2, [.int (nI kc), .int (nI kl), .int xb, .int (nI kn), .int (nI ko), .ref p5, .ref p6, .ref p7, .ref p8, .ref p9, .ref p10, .ref p11, .ref p12, .ref p13])), (p6, .inl (ca 1, 10, .inl fp6))]) [(h0, .inr (2, [.int (nI kc), .int (nI kl), .int xb, .int (nI kn), .int (nI ko), .ref p5, .ref p6, .ref p7, .ref p8, .ref p9, .ref p10, .ref p11, .ref p12, .ref p13])), (p6, .inl (ca 1, 10, .inl fp6))] sz D) 0 0 (va_A [(h0, .inr (2, [.int (nI kc), .int (nI kl), .int xb, .int (nI kn), .int (nI ko), .ref p5, .ref p6, .ref p7, .ref p8, .ref p9, .ref p10, .ref p11, .ref p12, .ref p13])), (p6, .inl (ca 1, 10, .inl fp6))] sz) := by
  refine Met.ofW (cc := cX2_isBudgeted) (maxL := 2) (ret := (some .boolean)) (by decide +kernel) rfl ?_
  intro p e s m args below meth c s₁ B hml hv
  obtain ⟨rfl, hsz, hP, hC, hD0⟩ := hv
  have hx := B.exec
  have hb := B.bytes
  have hr := B.returns
  have hts := atoms_spec (ws := wsX2_isBudgeted) B.pre
  have hown : s.vm.findClass RX2 = some m.cls := findClass_of_methodNamed B.named
  have hlocks := B.notSynchronized
  subst hsz
  have hD := hD0.self (sz := s.heap.size)
  dsimp only [QV, QI, QL, BQ]
  generalize hAe : va_A [(h0, .inr (2, [.int (nI kc), .int (nI kl), .int xb, .int (nI kn), .int (nI ko), .ref p5, .ref p6, .ref p7, .ref p8, .ref p9, .ref p10, .ref p11, .ref p12, .ref p13])), (p6, .inl (ca 1, 10, .inl fp6))] s.heap.size = A at hD ⊢
  have hA : ∀ q : Nat, s.heap.size ≤ q → A q := fun q h => by rw [← hAe]; exact Or.inr h
  have hDA : ∀ {w : va_W}, va_D A w → va_D (va_A [(h0, .inr (2, [.int (nI kc), .int (nI kl), .int xb, .int (nI kn), .int (nI ko), .ref p5, .ref p6, .ref p7, .ref p8, .ref p9, .ref p10, .ref p11, .ref p12, .ref p13])), (p6, .inl (ca 1, 10, .inl fp6))] s.heap.size) w := fun h => by rw [hAe]; exact h
  have hS : va_S A s.heap s.heap [] := va_S.rf
  have hP : va_P D vwCl [(h0, .inr (2, [.int (nI kc), .int (nI kl), .int xb, .int (nI kn), .int (nI ko), .ref p5, .ref p6, .ref p7, .ref p8, .ref p9, .ref p10, .ref p11, .ref p12, .ref p13])), (p6, .inl (ca 1, 10, .inl fp6))] s.heap := hP
  have hl := lv_entry ([.ref h0, .int (nI k)]) (n := 2) (Nat.le_of_ble_eq_true rfl)
  rw [lg_entry_eq]
  generalize (lg_sl ([.ref h0, .int (nI k)]) ++ List.replicate (2 - (lg_sl ([.ref h0, .int (nI k)])).length) Slot.unset).toArray = ls at hl ⊢
  have hl : lv_has ls 2 [(0, .ref h0), (1, .int (nI k))] := hl
  refine lv_aload_n hx hb dX2_isBudgeted_0 rfl (lv_at hl 0 rfl) ?_
  refine va_get (D := D) (ci := 2) (v := .ref p6) (C := RX2) (T := TX2) (N := 14) hx hb hts iw_X2_isBudgeted_2 hown hC.1 hP 0 rfl rfl 6 (by decide +kernel) (hts (.fieldLink RX2 31 "FairWheel$Plan" "kinds" "[I") (by decide +kernel)) (fun _ h9 => h9) rfl dX2_isBudgeted_1 ?_
  refine lv_iload_n hx hb dX2_isBudgeted_4 rfl (lv_at hl 1 rfl) ?_
  refine ka_iald hx hb hC.1 hP 1 1 rfl rfl k rfl (by omega) (by decide +kernel) dX2_isBudgeted_5 ?_
  refine lv_topi (fun y_1 ey_1 => ?_)
  refine lv_bipush (v := 7) hx hb dX2_isBudgeted_6 (by decide +kernel) ?_
  refine lv_icmp_eq (tgt := 22) hx hb dX2_isBudgeted_8 (by decide +kernel) (fun c_2 => ?_) (fun c_2 => ?_)
  · refine lv_iconst (v := 1) hx hb dX2_isBudgeted_22 (by decide +kernel) ?_
    refine lv_goto (tgt := 27) hx hb dX2_isBudgeted_23 (by decide +kernel) ?_
    exact W.zret (v := 1) hx hb hr (rfl) (fun t ht hW => ⟨⟨1, (), rfl, (Or.inr rfl), by rw [ht]; exact hP.sub [0, 1] rfl, hDA (hD.sub [0, 1] (by decide +kernel) rfl)⟩, hS.F ht⟩) hS.2.2 dX2_isBudgeted_27
  · refine lv_aload_n hx hb dX2_isBudgeted_11 rfl (lv_at hl 0 rfl) ?_
    refine va_get (D := D) (ci := 2) (v := .ref p6) (C := RX2) (T := TX2) (N := 14) hx hb hts iw_X2_isBudgeted_2 hown hC.1 hP 0 rfl rfl 6 (by decide +kernel) (hts (.fieldLink RX2 31 "FairWheel$Plan" "kinds" "[I") (by decide +kernel)) (fun _ h9 => h9) rfl dX2_isBudgeted_12 ?_
    refine lv_iload_n hx hb dX2_isBudgeted_15 rfl (lv_at hl 1 rfl) ?_
    refine ka_iald hx hb hC.1 hP 1 1 rfl rfl k rfl (by omega) (by decide +kernel) dX2_isBudgeted_16 ?_
    refine lv_topi (fun y_3 ey_3 => ?_)
    refine lv_bipush (v := 8) hx hb dX2_isBudgeted_17 (by decide +kernel) ?_
    refine lv_icmp_ne (tgt := 26) hx hb dX2_isBudgeted_19 (by decide +kernel) (fun c_4 => ?_) (fun c_4 => ?_)
    · refine lv_iconst (v := 0) hx hb dX2_isBudgeted_26 (by decide +kernel) ?_
      exact W.zret (v := 0) hx hb hr (rfl) (fun t ht hW => ⟨⟨0, (), rfl, (Or.inl rfl), by rw [ht]; exact hP.sub [0, 1] rfl, hDA (hD.sub [0, 1] (by decide +kernel) rfl)⟩, hS.F ht⟩) hS.2.2 dX2_isBudgeted_27
    · refine lv_iconst (v := 1) hx hb dX2_isBudgeted_22 (by decide +kernel) ?_
      refine lv_goto (tgt := 27) hx hb dX2_isBudgeted_23 (by decide +kernel) ?_
      exact W.zret (v := 1) hx hb hr (rfl) (fun t ht hW => ⟨⟨1, (), rfl, (Or.inr rfl), by rw [ht]; exact hP.sub [0, 1] rfl, hDA (hD.sub [0, 1] (by decide +kernel) rfl)⟩, hS.F ht⟩) hS.2.2 dX2_isBudgeted_27
theorem iw_X2_opAt_2 : ∀ w ∈ u_ws RX2 TX2 14, w ∈ wsX2_opAt := by decide +kernel
set_option maxHeartbeats 4000000 in
set_option maxRecDepth 100000 in
/-- Plan.opAt: none, or a place -/
theorem s_X2_opAt (l : Launch) (D : va_G) (ca : Nat → ClassId) (sz : Nat) (h0 : Nat) (p5 : Nat) (p6 : Nat) (p7 : Nat) (p8 : Nat) (p9 : Nat) (p10 : Nat) (p11 : Nat) (p12 : Nat) (p13 : Nat) (kc : Nat) (kl : Nat) (kn : Nat) (ko : Nat) (xb : Int32) (fp10 : Nat → Int32) (fp11 : Nat → Int32) (fp12 : Nat → Int32) (k : Nat) (x2 : Int32) (hk : k < 10) : Met l yX2_opAt wsX2_opAt ({ frames := 0, cells := 0, slots := 0, locals := 0 }) (PC [.ref h0, .int (nI k), .int x2] sz D ca [(h0, .inr (2, [.int (nI kc), .int (nI kl), .int xb, .int (nI kn), .int (nI ko), .ref p5, .ref p6, .ref p7, .ref p8, .ref p9, .ref p10, .ref p11, .ref p12, .ref p13])), (p10, .inl (ca 1, 10, .inl fp10)), (p11, .inl (ca 1, 10, .inl fp11)), (p12, .inl (ca 1, 90, .inl fp12))]) (QI (fun (r : Int32) (u : Unit) => r = -1 ∨ ∃ j : Nat, j < 90 ∧ r = nI j) (fun (_ : Unit) => [(h0, .inr (2, [.int (nI kc), .int (nI kl), .int xb, .int (nI kn), .int (nI ko), .ref p5, .ref p6, .ref p7, .ref p8, .ref p9, .ref p10, .ref p11, .ref p12, .ref p13])), (p10, .inl (ca 1, 10, .inl fp10)), (p11, .inl (ca 1, 10, .inl fp11)), (p12, .inl (ca 1, 90, .inl fp12))]) [(h0, .inr (2, [.int (nI kc), .int (nI kl), .int xb, .int (nI kn), .int (nI ko), .ref p5, .ref p6, .ref p7, .ref p8, .ref p9, .ref p10, .ref p11, .ref p12, .ref p13])), (p10, .inl (ca 1, 10, .inl fp10)), (p11, .inl (ca 1, 10, .inl fp11)), (p12, .inl (ca 1, 90, .inl fp12))] sz D) 0 0 (va_A [(h0, .inr (2, [.int (nI kc), .int (nI kl), .int xb, .int (nI kn), .int (nI ko), .ref p5, .ref p6, .ref p7, .ref p8, .ref p9, .ref p10, .ref p11, .ref p12, .ref p13])), (p10, .inl (ca 1, 10, .inl fp10)), (p11, .inl (ca 1, 10, .inl fp11)), (p12, .inl (ca 1, 90, .inl fp12))] sz) := by
  refine Met.ofW (cc := cX2_opAt) (maxL := 4) (ret := (some .int)) (by decide +kernel) rfl ?_
  intro p e s m args below meth c s₁ B hml hv
  obtain ⟨rfl, hsz, hP, hC, hD0⟩ := hv
  have hx := B.exec
  have hb := B.bytes
  have hr := B.returns
  have hts := atoms_spec (ws := wsX2_opAt) B.pre
  have hown : s.vm.findClass RX2 = some m.cls := findClass_of_methodNamed B.named
  have hlocks := B.notSynchronized
  subst hsz
  have hD := hD0.self (sz := s.heap.size)
  dsimp only [QV, QI, QL, BQ]
  generalize hAe : va_A [(h0, .inr (2, [.int (nI kc), .int (nI kl), .int xb, .int (nI kn), .int (nI ko), .ref p5, .ref p6, .ref p7, .ref p8, .ref p9, .ref p10, .ref p11, .ref p12, .ref p13])), (p10, .inl (ca 1, 10, .inl fp10)), (p11, .inl (ca 1, 10, .inl fp11)), (p12, .inl (ca 1, 90, .inl fp12))] s.heap.size = A at hD ⊢
  have hA : ∀ q : Nat, s.heap.size ≤ q → A q := fun q h => by rw [← hAe]; exact Or.inr h
  have hDA : ∀ {w : va_W}, va_D A w → va_D (va_A [(h0, .inr (2, [.int (nI kc), .int (nI kl), .int xb, .int (nI kn), .int (nI ko), .ref p5, .ref p6, .ref p7, .ref p8, .ref p9, .ref p10, .ref p11, .ref p12, .ref p13])), (p10, .inl (ca 1, 10, .inl fp10)), (p11, .inl (ca 1, 10, .inl fp11)), (p12, .inl (ca 1, 90, .inl fp12))] s.heap.size) w := fun h => by rw [hAe]; exact h
  have hS : va_S A s.heap s.heap [] := va_S.rf
  have hP : va_P D vwCl [(h0, .inr (2, [.int (nI kc), .int (nI kl), .int xb, .int (nI kn), .int (nI ko), .ref p5, .ref p6, .ref p7, .ref p8, .ref p9, .ref p10, .ref p11, .ref p12, .ref p13])), (p10, .inl (ca 1, 10, .inl fp10)), (p11, .inl (ca 1, 10, .inl fp11)), (p12, .inl (ca 1, 90, .inl fp12))] s.heap := hP
  have hl := lv_entry ([.ref h0, .int (nI k), .int x2]) (n := 4) (Nat.le_of_ble_eq_true rfl)
  rw [lg_entry_eq]
  generalize (lg_sl ([.ref h0, .int (nI k), .int x2]) ++ List.replicate (4 - (lg_sl ([.ref h0, .int (nI k), .int x2])).length) Slot.unset).toArray = ls at hl ⊢
  have hl : lv_has ls 4 [(0, .ref h0), (1, .int (nI k)), (2, .int x2)] := hl
  refine lv_aload_n hx hb dX2_opAt_0 rfl (lv_at hl 0 rfl) ?_
  refine va_get (D := D) (ci := 2) (v := .ref p10) (C := RX2) (T := TX2) (N := 14) hx hb hts iw_X2_opAt_2 hown hC.1 hP 0 rfl rfl 10 (by decide +kernel) (hts (.fieldLink RX2 44 "FairWheel$Plan" "firstOp" "[I") (by decide +kernel)) (fun _ h9 => h9) rfl dX2_opAt_1 ?_
  refine lv_iload_n hx hb dX2_opAt_4 rfl (lv_at hl 1 rfl) ?_
  refine ka_iald hx hb hC.1 hP 1 1 rfl rfl k rfl (by omega) (by decide +kernel) dX2_opAt_5 ?_
  refine lv_topi (fun y_1 ey_1 => ?_)
  refine lv_iload_n hx hb dX2_opAt_6 rfl (lv_at hl 2 rfl) ?_
  refine lv_iadd hx hb dX2_opAt_7 ?_
  refine lv_topi (fun y_2 ey_2 => ?_)
  refine lv_topi (fun xa exa => ?_)
  refine lv_istore_n (lv' := [(3, .int xa), (0, .ref h0), (1, .int (nI k)), (2, .int x2)]) hx hb dX2_opAt_8 rfl hl (by decide +kernel) rfl (fun ls hl => ?_)
  refine lv_iload_n hx hb dX2_opAt_9 rfl (lv_at hl 3 rfl) ?_
  refine lv_if_lt (tgt := 36) hx hb dX2_opAt_10 (by decide +kernel) (fun c_3 => ?_) (fun c_3 => ?_)
  · refine lv_iconst (v := (-1)) hx hb dX2_opAt_36 (by decide +kernel) ?_
    refine lv_goto (tgt := 41) hx hb dX2_opAt_37 (by decide +kernel) ?_
    exact W.iret (v := (-1)) hx hb hr (fun t ht hW => ⟨⟨(-1), (), rfl, (Or.inl rfl), by rw [ht]; exact hP.sub [0, 1, 2, 3] rfl, hDA (hD.sub [0, 1, 2, 3] (by decide +kernel) rfl)⟩, hS.F ht⟩) hS.2.2 dX2_opAt_41
  · refine lv_iload_n hx hb dX2_opAt_13 rfl (lv_at hl 3 rfl) ?_
    refine lv_aload_n hx hb dX2_opAt_14 rfl (lv_at hl 1 rfl) ?_
    refine va_get (D := D) (ci := 2) (v := .ref p11) (C := RX2) (T := TX2) (N := 14) hx hb hts iw_X2_opAt_2 hown hC.1 hP 0 rfl rfl 11 (by decide +kernel) (hts (.fieldLink RX2 47 "FairWheel$Plan" "opCount" "[I") (by decide +kernel)) (fun _ h9 => h9) rfl dX2_opAt_15 ?_
    refine lv_iload_n hx hb dX2_opAt_18 rfl (lv_at hl 2 rfl) ?_
    refine ka_iald hx hb hC.1 hP 2 1 rfl rfl k rfl (by omega) (by decide +kernel) dX2_opAt_19 ?_
    refine lv_topi (fun y_4 ey_4 => ?_)
    refine lv_icmp_ge (tgt := 36) hx hb dX2_opAt_20 (by decide +kernel) (fun c_5 => ?_) (fun c_5 => ?_)
    · refine lv_iconst (v := (-1)) hx hb dX2_opAt_36 (by decide +kernel) ?_
      refine lv_goto (tgt := 41) hx hb dX2_opAt_37 (by decide +kernel) ?_
      exact W.iret (v := (-1)) hx hb hr (fun t ht hW => ⟨⟨(-1), (), rfl, (Or.inl rfl), by rw [ht]; exact hP.sub [0, 1, 2, 3] rfl, hDA (hD.sub [0, 1, 2, 3] (by decide +kernel) rfl)⟩, hS.F ht⟩) hS.2.2 dX2_opAt_41
    · refine lv_iload_n hx hb dX2_opAt_23 rfl (lv_at hl 0 rfl) ?_
      refine lv_if_lt (tgt := 36) hx hb dX2_opAt_24 (by decide +kernel) (fun c_6 => ?_) (fun c_6 => ?_)
      · refine lv_iconst (v := (-1)) hx hb dX2_opAt_36 (by decide +kernel) ?_
        refine lv_goto (tgt := 41) hx hb dX2_opAt_37 (by decide +kernel) ?_
        exact W.iret (v := (-1)) hx hb hr (fun t ht hW => ⟨⟨(-1), (), rfl, (Or.inl rfl), by rw [ht]; exact hP.sub [0, 1, 2, 3] rfl, hDA (hD.sub [0, 1, 2, 3] (by decide +kernel) rfl)⟩, hS.F ht⟩) hS.2.2 dX2_opAt_41
      · refine lv_iload_n hx hb dX2_opAt_27 rfl (lv_at hl 0 rfl) ?_
        refine lv_aload_n hx hb dX2_opAt_28 rfl (lv_at hl 1 rfl) ?_
        refine va_get (D := D) (ci := 2) (v := .ref p12) (C := RX2) (T := TX2) (N := 14) hx hb hts iw_X2_opAt_2 hown hC.1 hP 0 rfl rfl 12 (by decide +kernel) (hts (.fieldLink RX2 50 "FairWheel$Plan" "codes" "[I") (by decide +kernel)) (fun _ h9 => h9) rfl dX2_opAt_29 ?_
        refine va_alen (v := 90) hx hb hC.1 hP 3 1 rfl rfl rfl dX2_opAt_32 ?_
        refine lv_icmp_lt (tgt := 40) hx hb dX2_opAt_33 (by decide +kernel) (fun c_7 => ?_) (fun c_7 => ?_)
        · obtain ⟨j, hj, rfl⟩ := nI_of c_6
          have nc_7 : j < 90 := (nI_ltI (a := j) (b := 90) (by omega) (by omega)).mp c_7
          refine lv_iload_n hx hb dX2_opAt_40 rfl (lv_at hl 0 rfl) ?_
          exact W.iret (v := nI j) hx hb hr (fun t ht hW => ⟨⟨nI j, (), rfl, (Or.inr ⟨j, by omega, rfl⟩), by rw [ht]; exact hP.sub [0, 1, 2, 3] rfl, hDA (hD.sub [0, 1, 2, 3] (by decide +kernel) rfl)⟩, hS.F ht⟩) hS.2.2 dX2_opAt_41
        · refine lv_iconst (v := (-1)) hx hb dX2_opAt_36 (by decide +kernel) ?_
          refine lv_goto (tgt := 41) hx hb dX2_opAt_37 (by decide +kernel) ?_
          exact W.iret (v := (-1)) hx hb hr (fun t ht hW => ⟨⟨(-1), (), rfl, (Or.inl rfl), by rw [ht]; exact hP.sub [0, 1, 2, 3] rfl, hDA (hD.sub [0, 1, 2, 3] (by decide +kernel) rfl)⟩, hS.F ht⟩) hS.2.2 dX2_opAt_41
set_option maxHeartbeats 4000000 in
set_option maxRecDepth 100000 in
theorem s_X2_workAt_n (l : Launch) (D : va_G) (ca : Nat → ClassId) (sz : Nat) (h0 : Nat) (p5 : Nat) (p6 : Nat) (p7 : Nat) (p8 : Nat) (p9 : Nat) (p10 : Nat) (p11 : Nat) (p12 : Nat) (p13 : Nat) (kc : Nat) (kl : Nat) (kn : Nat) (ko : Nat) (xb : Int32) : Met l yX2_workAt wsX2_workAt ({ frames := 0, cells := 0, slots := 0, locals := 0 }) (PC [.ref h0, .int (-1)] sz D ca [(h0, .inr (2, [.int (nI kc), .int (nI kl), .int xb, .int (nI kn), .int (nI ko), .ref p5, .ref p6, .ref p7, .ref p8, .ref p9, .ref p10, .ref p11, .ref p12, .ref p13]))]) (QI (fun (r : Int32) (u : Unit) => True) (fun (_ : Unit) => [(h0, .inr (2, [.int (nI kc), .int (nI kl), .int xb, .int (nI kn), .int (nI ko), .ref p5, .ref p6, .ref p7, .ref p8, .ref p9, .ref p10, .ref p11, .ref p12, .ref p13]))]) [(h0, .inr (2, [.int (nI kc), .int (nI kl), .int xb, .int (nI kn), .int (nI ko), .ref p5, .ref p6, .ref p7, .ref p8, .ref p9, .ref p10, .ref p11, .ref p12, .ref p13]))] sz D) 0 0 (va_A [(h0, .inr (2, [.int (nI kc), .int (nI kl), .int xb, .int (nI kn), .int (nI ko), .ref p5, .ref p6, .ref p7, .ref p8, .ref p9, .ref p10, .ref p11, .ref p12, .ref p13]))] sz) := by
  refine Met.ofW (cc := cX2_workAt) (maxL := 2) (ret := (some .int)) (by decide +kernel) rfl ?_
  intro p e s m args below meth c s₁ B hml hv
  obtain ⟨rfl, hsz, hP, hC, hD0⟩ := hv
  have hx := B.exec
  have hb := B.bytes
  have hr := B.returns
  have hts := atoms_spec (ws := wsX2_workAt) B.pre
  have hown : s.vm.findClass RX2 = some m.cls := findClass_of_methodNamed B.named
  have hlocks := B.notSynchronized
  subst hsz
  have hD := hD0.self (sz := s.heap.size)
  dsimp only [QV, QI, QL, BQ]
  generalize hAe : va_A [(h0, .inr (2, [.int (nI kc), .int (nI kl), .int xb, .int (nI kn), .int (nI ko), .ref p5, .ref p6, .ref p7, .ref p8, .ref p9, .ref p10, .ref p11, .ref p12, .ref p13]))] s.heap.size = A at hD ⊢
  have hA : ∀ q : Nat, s.heap.size ≤ q → A q := fun q h => by rw [← hAe]; exact Or.inr h
  have hDA : ∀ {w : va_W}, va_D A w → va_D (va_A [(h0, .inr (2, [.int (nI kc), .int (nI kl), .int xb, .int (nI kn), .int (nI ko), .ref p5, .ref p6, .ref p7, .ref p8, .ref p9, .ref p10, .ref p11, .ref p12, .ref p13]))] s.heap.size) w := fun h => by rw [hAe]; exact h
  have hS : va_S A s.heap s.heap [] := va_S.rf
  have hP : va_P D vwCl [(h0, .inr (2, [.int (nI kc), .int (nI kl), .int xb, .int (nI kn), .int (nI ko), .ref p5, .ref p6, .ref p7, .ref p8, .ref p9, .ref p10, .ref p11, .ref p12, .ref p13]))] s.heap := hP
  have hl := lv_entry ([.ref h0, .int (-1)]) (n := 2) (Nat.le_of_ble_eq_true rfl)
  rw [lg_entry_eq]
  generalize (lg_sl ([.ref h0, .int (-1)]) ++ List.replicate (2 - (lg_sl ([.ref h0, .int (-1)])).length) Slot.unset).toArray = ls at hl ⊢
  have hl : lv_has ls 2 [(0, .ref h0), (1, .int (-1))] := hl
  refine lv_iload_n hx hb dX2_workAt_0 rfl (lv_at hl 1 rfl) ?_
  refine lv_iconst (v := (-1)) hx hb dX2_workAt_1 (by decide +kernel) ?_
  refine lv_icmp_eq (tgt := 16) hx hb dX2_workAt_2 (by decide +kernel) (fun c_1 => ?_) (fun c_1 => absurd (by decide +kernel) c_1)
  refine lv_iconst (v := 0) hx hb dX2_workAt_16 (by decide +kernel) ?_
  refine lv_goto (tgt := 26) hx hb dX2_workAt_17 (by decide +kernel) ?_
  exact W.iret (v := 0) hx hb hr (fun t ht hW => ⟨⟨0, (), rfl, trivial, by rw [ht]; exact hP.sub [0] rfl, hDA (hD.sub [0] (by decide +kernel) rfl)⟩, hS.F ht⟩) hS.2.2 dX2_workAt_26
theorem iw_X2_workAt_2 : ∀ w ∈ u_ws RX2 TX2 14, w ∈ wsX2_workAt := by decide +kernel
set_option maxHeartbeats 4000000 in
set_option maxRecDepth 100000 in
theorem s_X2_workAt (l : Launch) (D : va_G) (ca : Nat → ClassId) (sz : Nat) (h0 : Nat) (p5 : Nat) (p6 : Nat) (p7 : Nat) (p8 : Nat) (p9 : Nat) (p10 : Nat) (p11 : Nat) (p12 : Nat) (p13 : Nat) (kc : Nat) (kl : Nat) (kn : Nat) (ko : Nat) (xb : Int32) (fp12 : Nat → Int32) (fp13 : Nat → Int32) (k : Nat) (hk : k < 90) : Met l yX2_workAt wsX2_workAt ({ frames := 0, cells := 0, slots := 0, locals := 0 }) (PC [.ref h0, .int (nI k)] sz D ca [(h0, .inr (2, [.int (nI kc), .int (nI kl), .int xb, .int (nI kn), .int (nI ko), .ref p5, .ref p6, .ref p7, .ref p8, .ref p9, .ref p10, .ref p11, .ref p12, .ref p13])), (p12, .inl (ca 1, 90, .inl fp12)), (p13, .inl (ca 1, 90, .inl fp13))]) (QI (fun (r : Int32) (u : Unit) => True) (fun (_ : Unit) => [(h0, .inr (2, [.int (nI kc), .int (nI kl), .int xb, .int (nI kn), .int (nI ko), .ref p5, .ref p6, .ref p7, .ref p8, .ref p9, .ref p10, .ref p11, .ref p12, .ref p13])), (p12, .inl (ca 1, 90, .inl fp12)), (p13, .inl (ca 1, 90, .inl fp13))]) [(h0, .inr (2, [.int (nI kc), .int (nI kl), .int xb, .int (nI kn), .int (nI ko), .ref p5, .ref p6, .ref p7, .ref p8, .ref p9, .ref p10, .ref p11, .ref p12, .ref p13])), (p12, .inl (ca 1, 90, .inl fp12)), (p13, .inl (ca 1, 90, .inl fp13))] sz D) 0 0 (va_A [(h0, .inr (2, [.int (nI kc), .int (nI kl), .int xb, .int (nI kn), .int (nI ko), .ref p5, .ref p6, .ref p7, .ref p8, .ref p9, .ref p10, .ref p11, .ref p12, .ref p13])), (p12, .inl (ca 1, 90, .inl fp12)), (p13, .inl (ca 1, 90, .inl fp13))] sz) := by
  refine Met.ofW (cc := cX2_workAt) (maxL := 2) (ret := (some .int)) (by decide +kernel) rfl ?_
  intro p e s m args below meth c s₁ B hml hv
  obtain ⟨rfl, hsz, hP, hC, hD0⟩ := hv
  have hx := B.exec
  have hb := B.bytes
  have hr := B.returns
  have hts := atoms_spec (ws := wsX2_workAt) B.pre
  have hown : s.vm.findClass RX2 = some m.cls := findClass_of_methodNamed B.named
  have hlocks := B.notSynchronized
  subst hsz
  have hD := hD0.self (sz := s.heap.size)
  dsimp only [QV, QI, QL, BQ]
  generalize hAe : va_A [(h0, .inr (2, [.int (nI kc), .int (nI kl), .int xb, .int (nI kn), .int (nI ko), .ref p5, .ref p6, .ref p7, .ref p8, .ref p9, .ref p10, .ref p11, .ref p12, .ref p13])), (p12, .inl (ca 1, 90, .inl fp12)), (p13, .inl (ca 1, 90, .inl fp13))] s.heap.size = A at hD ⊢
  have hA : ∀ q : Nat, s.heap.size ≤ q → A q := fun q h => by rw [← hAe]; exact Or.inr h
  have hDA : ∀ {w : va_W}, va_D A w → va_D (va_A [(h0, .inr (2, [.int (nI kc), .int (nI kl), .int xb, .int (nI kn), .int (nI ko), .ref p5, .ref p6, .ref p7, .ref p8, .ref p9, .ref p10, .ref p11, .ref p12, .ref p13])), (p12, .inl (ca 1, 90, .inl fp12)), (p13, .inl (ca 1, 90, .inl fp13))] s.heap.size) w := fun h => by rw [hAe]; exact h
  have hS : va_S A s.heap s.heap [] := va_S.rf
  have hP : va_P D vwCl [(h0, .inr (2, [.int (nI kc), .int (nI kl), .int xb, .int (nI kn), .int (nI ko), .ref p5, .ref p6, .ref p7, .ref p8, .ref p9, .ref p10, .ref p11, .ref p12, .ref p13])), (p12, .inl (ca 1, 90, .inl fp12)), (p13, .inl (ca 1, 90, .inl fp13))] s.heap := hP
  have hl := lv_entry ([.ref h0, .int (nI k)]) (n := 2) (Nat.le_of_ble_eq_true rfl)
  rw [lg_entry_eq]
  generalize (lg_sl ([.ref h0, .int (nI k)]) ++ List.replicate (2 - (lg_sl ([.ref h0, .int (nI k)])).length) Slot.unset).toArray = ls at hl ⊢
  have hl : lv_has ls 2 [(0, .ref h0), (1, .int (nI k))] := hl
  refine lv_iload_n hx hb dX2_workAt_0 rfl (lv_at hl 1 rfl) ?_
  refine lv_iconst (v := (-1)) hx hb dX2_workAt_1 (by decide +kernel) ?_
  refine lv_icmp_eq (tgt := 16) hx hb dX2_workAt_2 (by decide +kernel) (fun c_1 => (nI_neg_ne (by omega) (by decide +kernel) c_1).elim) (fun c_1 => ?_)
  refine lv_aload_n hx hb dX2_workAt_5 rfl (lv_at hl 0 rfl) ?_
  refine va_get (D := D) (ci := 2) (v := .ref p12) (C := RX2) (T := TX2) (N := 14) hx hb hts iw_X2_workAt_2 hown hC.1 hP 0 rfl rfl 12 (by decide +kernel) (hts (.fieldLink RX2 50 "FairWheel$Plan" "codes" "[I") (by decide +kernel)) (fun _ h9 => h9) rfl dX2_workAt_6 ?_
  refine lv_iload_n hx hb dX2_workAt_9 rfl (lv_at hl 1 rfl) ?_
  refine ka_iald hx hb hC.1 hP 1 1 rfl rfl k rfl (by omega) (by decide +kernel) dX2_workAt_10 ?_
  refine lv_topi (fun y_2 ey_2 => ?_)
  refine lv_bipush (v := 12) hx hb dX2_workAt_11 (by decide +kernel) ?_
  refine lv_icmp_eq (tgt := 20) hx hb dX2_workAt_13 (by decide +kernel) (fun c_3 => ?_) (fun c_3 => ?_)
  · refine lv_aload_n hx hb dX2_workAt_20 rfl (lv_at hl 0 rfl) ?_
    refine va_get (D := D) (ci := 2) (v := .ref p13) (C := RX2) (T := TX2) (N := 14) hx hb hts iw_X2_workAt_2 hown hC.1 hP 0 rfl rfl 13 (by decide +kernel) (hts (.fieldLink RX2 53 "FairWheel$Plan" "numbers" "[I") (by decide +kernel)) (fun _ h9 => h9) rfl dX2_workAt_21 ?_
    refine lv_iload_n hx hb dX2_workAt_24 rfl (lv_at hl 1 rfl) ?_
    refine ka_iald hx hb hC.1 hP 2 1 rfl rfl k rfl (by omega) (by decide +kernel) dX2_workAt_25 ?_
    refine lv_topi (fun y_4 ey_4 => ?_)
    exact W.iret (v := y_4) hx hb hr (fun t ht hW => ⟨⟨y_4, (), rfl, trivial, by rw [ht]; exact hP.sub [0, 1, 2] rfl, hDA (hD.sub [0, 1, 2] (by decide +kernel) rfl)⟩, hS.F ht⟩) hS.2.2 dX2_workAt_26
  · refine lv_iconst (v := 0) hx hb dX2_workAt_16 (by decide +kernel) ?_
    refine lv_goto (tgt := 26) hx hb dX2_workAt_17 (by decide +kernel) ?_
    exact W.iret (v := 0) hx hb hr (fun t ht hW => ⟨⟨0, (), rfl, trivial, by rw [ht]; exact hP.sub [0, 1, 2] rfl, hDA (hD.sub [0, 1, 2] (by decide +kernel) rfl)⟩, hS.F ht⟩) hS.2.2 dX2_workAt_26
theorem iw_X2_keepCount_2 : ∀ w ∈ u_ws RX2 TX2 14, w ∈ wsX2_keepCount := by decide +kernel
set_option maxHeartbeats 4000000 in
set_option maxRecDepth 100000 in
theorem s_X2_keepCount_0 (l : Launch) (D : va_G) (ca : Nat → ClassId) (sz : Nat) (h0 : Nat) (p5 : Nat) (p6 : Nat) (p7 : Nat) (p8 : Nat) (p9 : Nat) (p10 : Nat) (p11 : Nat) (p12 : Nat) (p13 : Nat) (kc : Nat) (kl : Nat) (kn : Nat) (ko : Nat) (xb : Int32) (k : Nat) : Met l yX2_keepCount wsX2_keepCount ({ frames := 0, cells := 0, slots := 0, locals := 0 }) (PC [.ref h0, .int 0, .int (nI k)] sz D ca [(h0, .inr (2, [.int (nI kc), .int (nI kl), .int xb, .int (nI kn), .int (nI ko), .ref p5, .ref p6, .ref p7, .ref p8, .ref p9, .ref p10, .ref p11, .ref p12, .ref p13]))]) (QV (fun (u : Unit) => True) (fun (_ : Unit) => [(h0, .inr (2, [.int (nI k), .int (nI kl), .int xb, .int (nI kn), .int (nI ko), .ref p5, .ref p6, .ref p7, .ref p8, .ref p9, .ref p10, .ref p11, .ref p12, .ref p13]))]) [(h0, .inr (2, [.int (nI kc), .int (nI kl), .int xb, .int (nI kn), .int (nI ko), .ref p5, .ref p6, .ref p7, .ref p8, .ref p9, .ref p10, .ref p11, .ref p12, .ref p13]))] sz D) 0 0 (va_A [(h0, .inr (2, [.int (nI kc), .int (nI kl), .int xb, .int (nI kn), .int (nI ko), .ref p5, .ref p6, .ref p7, .ref p8, .ref p9, .ref p10, .ref p11, .ref p12, .ref p13]))] sz) := by
  refine Met.ofW (cc := cX2_keepCount) (maxL := 3) (ret := none) (by decide +kernel) rfl ?_
  intro p e s m args below meth c s₁ B hml hv
  obtain ⟨rfl, hsz, hP, hC, hD0⟩ := hv
  have hx := B.exec
  have hb := B.bytes
  have hr := B.returns
  have hts := atoms_spec (ws := wsX2_keepCount) B.pre
  have hown : s.vm.findClass RX2 = some m.cls := findClass_of_methodNamed B.named
  have hlocks := B.notSynchronized
  subst hsz
  have hD := hD0.self (sz := s.heap.size)
  dsimp only [QV, QI, QL, BQ]
  generalize hAe : va_A [(h0, .inr (2, [.int (nI kc), .int (nI kl), .int xb, .int (nI kn), .int (nI ko), .ref p5, .ref p6, .ref p7, .ref p8, .ref p9, .ref p10, .ref p11, .ref p12, .ref p13]))] s.heap.size = A at hD ⊢
  have hA : ∀ q : Nat, s.heap.size ≤ q → A q := fun q h => by rw [← hAe]; exact Or.inr h
  have hDA : ∀ {w : va_W}, va_D A w → va_D (va_A [(h0, .inr (2, [.int (nI kc), .int (nI kl), .int xb, .int (nI kn), .int (nI ko), .ref p5, .ref p6, .ref p7, .ref p8, .ref p9, .ref p10, .ref p11, .ref p12, .ref p13]))] s.heap.size) w := fun h => by rw [hAe]; exact h
  have hS : va_S A s.heap s.heap [] := va_S.rf
  have hP : va_P D vwCl [(h0, .inr (2, [.int (nI kc), .int (nI kl), .int xb, .int (nI kn), .int (nI ko), .ref p5, .ref p6, .ref p7, .ref p8, .ref p9, .ref p10, .ref p11, .ref p12, .ref p13]))] s.heap := hP
  have hl := lv_entry ([.ref h0, .int 0, .int (nI k)]) (n := 3) (Nat.le_of_ble_eq_true rfl)
  rw [lg_entry_eq]
  generalize (lg_sl ([.ref h0, .int 0, .int (nI k)]) ++ List.replicate (3 - (lg_sl ([.ref h0, .int 0, .int (nI k)])).length) Slot.unset).toArray = ls at hl ⊢
  have hl : lv_has ls 3 [(0, .ref h0), (1, .int 0), (2, .int (nI k))] := hl
  refine lv_iload_n hx hb dX2_keepCount_0 rfl (lv_at hl 1 rfl) ?_
  refine lv_lookup (off := 27) (tgt := 28) hx hb dX2_keepCount_1 (by decide +kernel) (by decide +kernel) (by decide +kernel) ?_
  refine lv_aload_n hx hb dX2_keepCount_28 rfl (lv_at hl 0 rfl) ?_
  refine lv_iload_n hx hb dX2_keepCount_29 rfl (lv_at hl 2 rfl) ?_
  refine va_put (D := D) (ci := 2) (v := .int (nI k)) (ty := .int) (C := RX2) (T := TX2) (N := 14) hx hb hts iw_X2_keepCount_2 tyX2 tyX2_ok nmX2 hown hC.1 hP hD hS 0 rfl rfl 0 (by decide +kernel) (hts (.fieldLink RX2 9 "FairWheel$Plan" "cores" "I") (by decide +kernel)) (fun _ h9 => h9) rfl (by decide +kernel) rfl rfl (Nat.le_of_ble_eq_true rfl) dX2_keepCount_30 (fun H locs hP hD hS => ?_)
  have hP : va_P D vwCl [(h0, .inr (2, [.int (nI k), .int (nI kl), .int xb, .int (nI kn), .int (nI ko), .ref p5, .ref p6, .ref p7, .ref p8, .ref p9, .ref p10, .ref p11, .ref p12, .ref p13]))] H := hP
  have hD : va_D A [(h0, .inr (2, [.int (nI k), .int (nI kl), .int xb, .int (nI kn), .int (nI ko), .ref p5, .ref p6, .ref p7, .ref p8, .ref p9, .ref p10, .ref p11, .ref p12, .ref p13]))] := hD
  refine lv_goto (tgt := 49) hx hb dX2_keepCount_33 (by decide +kernel) ?_
  exact W.vret hx hb hr (fun t ht hW => ⟨⟨(), rfl, trivial, by rw [ht]; exact hP.sub [0] rfl, hDA (hD.sub [0] (by decide +kernel) rfl)⟩, hS.F ht⟩) hS.2.2 dX2_keepCount_49
set_option maxHeartbeats 4000000 in
set_option maxRecDepth 100000 in
theorem s_X2_keepCount_1 (l : Launch) (D : va_G) (ca : Nat → ClassId) (sz : Nat) (h0 : Nat) (p5 : Nat) (p6 : Nat) (p7 : Nat) (p8 : Nat) (p9 : Nat) (p10 : Nat) (p11 : Nat) (p12 : Nat) (p13 : Nat) (kc : Nat) (kl : Nat) (kn : Nat) (ko : Nat) (xb : Int32) (k : Nat) : Met l yX2_keepCount wsX2_keepCount ({ frames := 0, cells := 0, slots := 0, locals := 0 }) (PC [.ref h0, .int 1, .int (nI k)] sz D ca [(h0, .inr (2, [.int (nI kc), .int (nI kl), .int xb, .int (nI kn), .int (nI ko), .ref p5, .ref p6, .ref p7, .ref p8, .ref p9, .ref p10, .ref p11, .ref p12, .ref p13]))]) (QV (fun (u : Unit) => True) (fun (_ : Unit) => [(h0, .inr (2, [.int (nI kc), .int (nI k), .int xb, .int (nI kn), .int (nI ko), .ref p5, .ref p6, .ref p7, .ref p8, .ref p9, .ref p10, .ref p11, .ref p12, .ref p13]))]) [(h0, .inr (2, [.int (nI kc), .int (nI kl), .int xb, .int (nI kn), .int (nI ko), .ref p5, .ref p6, .ref p7, .ref p8, .ref p9, .ref p10, .ref p11, .ref p12, .ref p13]))] sz D) 0 0 (va_A [(h0, .inr (2, [.int (nI kc), .int (nI kl), .int xb, .int (nI kn), .int (nI ko), .ref p5, .ref p6, .ref p7, .ref p8, .ref p9, .ref p10, .ref p11, .ref p12, .ref p13]))] sz) := by
  refine Met.ofW (cc := cX2_keepCount) (maxL := 3) (ret := none) (by decide +kernel) rfl ?_
  intro p e s m args below meth c s₁ B hml hv
  obtain ⟨rfl, hsz, hP, hC, hD0⟩ := hv
  have hx := B.exec
  have hb := B.bytes
  have hr := B.returns
  have hts := atoms_spec (ws := wsX2_keepCount) B.pre
  have hown : s.vm.findClass RX2 = some m.cls := findClass_of_methodNamed B.named
  have hlocks := B.notSynchronized
  subst hsz
  have hD := hD0.self (sz := s.heap.size)
  dsimp only [QV, QI, QL, BQ]
  generalize hAe : va_A [(h0, .inr (2, [.int (nI kc), .int (nI kl), .int xb, .int (nI kn), .int (nI ko), .ref p5, .ref p6, .ref p7, .ref p8, .ref p9, .ref p10, .ref p11, .ref p12, .ref p13]))] s.heap.size = A at hD ⊢
  have hA : ∀ q : Nat, s.heap.size ≤ q → A q := fun q h => by rw [← hAe]; exact Or.inr h
  have hDA : ∀ {w : va_W}, va_D A w → va_D (va_A [(h0, .inr (2, [.int (nI kc), .int (nI kl), .int xb, .int (nI kn), .int (nI ko), .ref p5, .ref p6, .ref p7, .ref p8, .ref p9, .ref p10, .ref p11, .ref p12, .ref p13]))] s.heap.size) w := fun h => by rw [hAe]; exact h
  have hS : va_S A s.heap s.heap [] := va_S.rf
  have hP : va_P D vwCl [(h0, .inr (2, [.int (nI kc), .int (nI kl), .int xb, .int (nI kn), .int (nI ko), .ref p5, .ref p6, .ref p7, .ref p8, .ref p9, .ref p10, .ref p11, .ref p12, .ref p13]))] s.heap := hP
  have hl := lv_entry ([.ref h0, .int 1, .int (nI k)]) (n := 3) (Nat.le_of_ble_eq_true rfl)
  rw [lg_entry_eq]
  generalize (lg_sl ([.ref h0, .int 1, .int (nI k)]) ++ List.replicate (3 - (lg_sl ([.ref h0, .int 1, .int (nI k)])).length) Slot.unset).toArray = ls at hl ⊢
  have hl : lv_has ls 3 [(0, .ref h0), (1, .int 1), (2, .int (nI k))] := hl
  refine lv_iload_n hx hb dX2_keepCount_0 rfl (lv_at hl 1 rfl) ?_
  refine lv_lookup (off := 35) (tgt := 36) hx hb dX2_keepCount_1 (by decide +kernel) (by decide +kernel) (by decide +kernel) ?_
  refine lv_aload_n hx hb dX2_keepCount_36 rfl (lv_at hl 0 rfl) ?_
  refine lv_iload_n hx hb dX2_keepCount_37 rfl (lv_at hl 2 rfl) ?_
  refine va_put (D := D) (ci := 2) (v := .int (nI k)) (ty := .int) (C := RX2) (T := TX2) (N := 14) hx hb hts iw_X2_keepCount_2 tyX2 tyX2_ok nmX2 hown hC.1 hP hD hS 0 rfl rfl 1 (by decide +kernel) (hts (.fieldLink RX2 15 "FairWheel$Plan" "locks" "I") (by decide +kernel)) (fun _ h9 => h9) rfl (by decide +kernel) rfl rfl (Nat.le_of_ble_eq_true rfl) dX2_keepCount_38 (fun H locs hP hD hS => ?_)
  have hP : va_P D vwCl [(h0, .inr (2, [.int (nI kc), .int (nI k), .int xb, .int (nI kn), .int (nI ko), .ref p5, .ref p6, .ref p7, .ref p8, .ref p9, .ref p10, .ref p11, .ref p12, .ref p13]))] H := hP
  have hD : va_D A [(h0, .inr (2, [.int (nI kc), .int (nI k), .int xb, .int (nI kn), .int (nI ko), .ref p5, .ref p6, .ref p7, .ref p8, .ref p9, .ref p10, .ref p11, .ref p12, .ref p13]))] := hD
  refine lv_goto (tgt := 49) hx hb dX2_keepCount_41 (by decide +kernel) ?_
  exact W.vret hx hb hr (fun t ht hW => ⟨⟨(), rfl, trivial, by rw [ht]; exact hP.sub [0] rfl, hDA (hD.sub [0] (by decide +kernel) rfl)⟩, hS.F ht⟩) hS.2.2 dX2_keepCount_49
set_option maxHeartbeats 4000000 in
set_option maxRecDepth 100000 in
theorem s_X2_keepCount_2 (l : Launch) (D : va_G) (ca : Nat → ClassId) (sz : Nat) (h0 : Nat) (p5 : Nat) (p6 : Nat) (p7 : Nat) (p8 : Nat) (p9 : Nat) (p10 : Nat) (p11 : Nat) (p12 : Nat) (p13 : Nat) (kc : Nat) (kl : Nat) (kn : Nat) (ko : Nat) (xb : Int32) (x2 : Int32) : Met l yX2_keepCount wsX2_keepCount ({ frames := 0, cells := 0, slots := 0, locals := 0 }) (PC [.ref h0, .int 2, .int x2] sz D ca [(h0, .inr (2, [.int (nI kc), .int (nI kl), .int xb, .int (nI kn), .int (nI ko), .ref p5, .ref p6, .ref p7, .ref p8, .ref p9, .ref p10, .ref p11, .ref p12, .ref p13]))]) (QV (fun (u : Unit) => True) (fun (_ : Unit) => [(h0, .inr (2, [.int (nI kc), .int (nI kl), .int x2, .int (nI kn), .int (nI ko), .ref p5, .ref p6, .ref p7, .ref p8, .ref p9, .ref p10, .ref p11, .ref p12, .ref p13]))]) [(h0, .inr (2, [.int (nI kc), .int (nI kl), .int xb, .int (nI kn), .int (nI ko), .ref p5, .ref p6, .ref p7, .ref p8, .ref p9, .ref p10, .ref p11, .ref p12, .ref p13]))] sz D) 0 0 (va_A [(h0, .inr (2, [.int (nI kc), .int (nI kl), .int xb, .int (nI kn), .int (nI ko), .ref p5, .ref p6, .ref p7, .ref p8, .ref p9, .ref p10, .ref p11, .ref p12, .ref p13]))] sz) := by
  refine Met.ofW (cc := cX2_keepCount) (maxL := 3) (ret := none) (by decide +kernel) rfl ?_
  intro p e s m args below meth c s₁ B hml hv
  obtain ⟨rfl, hsz, hP, hC, hD0⟩ := hv
  have hx := B.exec
  have hb := B.bytes
  have hr := B.returns
  have hts := atoms_spec (ws := wsX2_keepCount) B.pre
  have hown : s.vm.findClass RX2 = some m.cls := findClass_of_methodNamed B.named
  have hlocks := B.notSynchronized
  subst hsz
  have hD := hD0.self (sz := s.heap.size)
  dsimp only [QV, QI, QL, BQ]
  generalize hAe : va_A [(h0, .inr (2, [.int (nI kc), .int (nI kl), .int xb, .int (nI kn), .int (nI ko), .ref p5, .ref p6, .ref p7, .ref p8, .ref p9, .ref p10, .ref p11, .ref p12, .ref p13]))] s.heap.size = A at hD ⊢
  have hA : ∀ q : Nat, s.heap.size ≤ q → A q := fun q h => by rw [← hAe]; exact Or.inr h
  have hDA : ∀ {w : va_W}, va_D A w → va_D (va_A [(h0, .inr (2, [.int (nI kc), .int (nI kl), .int xb, .int (nI kn), .int (nI ko), .ref p5, .ref p6, .ref p7, .ref p8, .ref p9, .ref p10, .ref p11, .ref p12, .ref p13]))] s.heap.size) w := fun h => by rw [hAe]; exact h
  have hS : va_S A s.heap s.heap [] := va_S.rf
  have hP : va_P D vwCl [(h0, .inr (2, [.int (nI kc), .int (nI kl), .int xb, .int (nI kn), .int (nI ko), .ref p5, .ref p6, .ref p7, .ref p8, .ref p9, .ref p10, .ref p11, .ref p12, .ref p13]))] s.heap := hP
  have hl := lv_entry ([.ref h0, .int 2, .int x2]) (n := 3) (Nat.le_of_ble_eq_true rfl)
  rw [lg_entry_eq]
  generalize (lg_sl ([.ref h0, .int 2, .int x2]) ++ List.replicate (3 - (lg_sl ([.ref h0, .int 2, .int x2])).length) Slot.unset).toArray = ls at hl ⊢
  have hl : lv_has ls 3 [(0, .ref h0), (1, .int 2), (2, .int x2)] := hl
  refine lv_iload_n hx hb dX2_keepCount_0 rfl (lv_at hl 1 rfl) ?_
  refine lv_lookup (off := 43) (tgt := 44) hx hb dX2_keepCount_1 (by decide +kernel) (by decide +kernel) (by decide +kernel) ?_
  refine lv_aload_n hx hb dX2_keepCount_44 rfl (lv_at hl 0 rfl) ?_
  refine lv_iload_n hx hb dX2_keepCount_45 rfl (lv_at hl 2 rfl) ?_
  refine va_put (D := D) (ci := 2) (v := .int x2) (ty := .int) (C := RX2) (T := TX2) (N := 14) hx hb hts iw_X2_keepCount_2 tyX2 tyX2_ok nmX2 hown hC.1 hP hD hS 0 rfl rfl 2 (by decide +kernel) (hts (.fieldLink RX2 18 "FairWheel$Plan" "bells" "I") (by decide +kernel)) (fun _ h9 => h9) rfl (by decide +kernel) rfl rfl (Nat.le_of_ble_eq_true rfl) dX2_keepCount_46 (fun H locs hP hD hS => ?_)
  have hP : va_P D vwCl [(h0, .inr (2, [.int (nI kc), .int (nI kl), .int x2, .int (nI kn), .int (nI ko), .ref p5, .ref p6, .ref p7, .ref p8, .ref p9, .ref p10, .ref p11, .ref p12, .ref p13]))] H := hP
  have hD : va_D A [(h0, .inr (2, [.int (nI kc), .int (nI kl), .int x2, .int (nI kn), .int (nI ko), .ref p5, .ref p6, .ref p7, .ref p8, .ref p9, .ref p10, .ref p11, .ref p12, .ref p13]))] := hD
  exact W.vret hx hb hr (fun t ht hW => ⟨⟨(), rfl, trivial, by rw [ht]; exact hP.sub [0] rfl, hDA (hD.sub [0] (by decide +kernel) rfl)⟩, hS.F ht⟩) hS.2.2 dX2_keepCount_49
theorem iw_X2_hasName_2 : ∀ w ∈ u_ws RX2 TX2 14, w ∈ wsX2_hasName := by decide +kernel
set_option maxHeartbeats 4000000 in
set_option maxRecDepth 100000 in
theorem s_X2_hasName (l : Launch) (D : va_G) (ca : Nat → ClassId) (sz : Nat) (h0 : Nat) (p5 : Nat) (p6 : Nat) (p7 : Nat) (p8 : Nat) (p9 : Nat) (p10 : Nat) (p11 : Nat) (p12 : Nat) (p13 : Nat) (kc : Nat) (kl : Nat) (kn : Nat) (ko : Nat) (xb : Int32) (fp5 : Nat → Int64) (xn : Int64) (hc : kn ≤ 10) : Met l yX2_hasName wsX2_hasName ({ frames := 0, cells := 0, slots := 0, locals := 0 }) (PC [.ref h0, .long xn] sz D ca [(h0, .inr (2, [.int (nI kc), .int (nI kl), .int xb, .int (nI kn), .int (nI ko), .ref p5, .ref p6, .ref p7, .ref p8, .ref p9, .ref p10, .ref p11, .ref p12, .ref p13])), (p5, .inl (ca 2, 10, .inr (.inl fp5)))]) (QI (fun (r : Int32) (u : Unit) => r = 0 ∨ r = 1) (fun (_ : Unit) => [(h0, .inr (2, [.int (nI kc), .int (nI kl), .int xb, .int (nI kn), .int (nI ko), .ref p5, .ref p6, .ref p7, .ref p8, .ref p9, .ref p10, .ref p11, .ref p12, .ref p13])), (p5, .inl (ca 2, 10, .inr (.inl fp5)))]) [(h0, .inr (2, [.int (nI kc), .int (nI kl), .int xb, .int (nI kn), .int (nI ko), .ref p5, .ref p6, .ref p7, .ref p8, .ref p9, .ref p10, .ref p11, .ref p12, .ref p13])), (p5, .inl (ca 2, 10, .inr (.inl fp5)))] sz D) 0 0 (va_A [(h0, .inr (2, [.int (nI kc), .int (nI kl), .int xb, .int (nI kn), .int (nI ko), .ref p5, .ref p6, .ref p7, .ref p8, .ref p9, .ref p10, .ref p11, .ref p12, .ref p13])), (p5, .inl (ca 2, 10, .inr (.inl fp5)))] sz) := by
  refine Met.ofW (cc := cX2_hasName) (maxL := 4) (ret := (some .boolean)) (by decide +kernel) rfl ?_
  intro p e s m args below meth c s₁ B hml hv
  obtain ⟨rfl, hsz, hP, hC, hD0⟩ := hv
  have hx := B.exec
  have hb := B.bytes
  have hr := B.returns
  have hts := atoms_spec (ws := wsX2_hasName) B.pre
  have hown : s.vm.findClass RX2 = some m.cls := findClass_of_methodNamed B.named
  have hlocks := B.notSynchronized
  subst hsz
  have hD := hD0.self (sz := s.heap.size)
  dsimp only [QV, QI, QL, BQ]
  generalize hAe : va_A [(h0, .inr (2, [.int (nI kc), .int (nI kl), .int xb, .int (nI kn), .int (nI ko), .ref p5, .ref p6, .ref p7, .ref p8, .ref p9, .ref p10, .ref p11, .ref p12, .ref p13])), (p5, .inl (ca 2, 10, .inr (.inl fp5)))] s.heap.size = A at hD ⊢
  have hA : ∀ q : Nat, s.heap.size ≤ q → A q := fun q h => by rw [← hAe]; exact Or.inr h
  have hDA : ∀ {w : va_W}, va_D A w → va_D (va_A [(h0, .inr (2, [.int (nI kc), .int (nI kl), .int xb, .int (nI kn), .int (nI ko), .ref p5, .ref p6, .ref p7, .ref p8, .ref p9, .ref p10, .ref p11, .ref p12, .ref p13])), (p5, .inl (ca 2, 10, .inr (.inl fp5)))] s.heap.size) w := fun h => by rw [hAe]; exact h
  have hS : va_S A s.heap s.heap [] := va_S.rf
  have hP : va_P D vwCl [(h0, .inr (2, [.int (nI kc), .int (nI kl), .int xb, .int (nI kn), .int (nI ko), .ref p5, .ref p6, .ref p7, .ref p8, .ref p9, .ref p10, .ref p11, .ref p12, .ref p13])), (p5, .inl (ca 2, 10, .inr (.inl fp5)))] s.heap := hP
  have hl := lv_entry ([.ref h0, .long xn]) (n := 4) (Nat.le_of_ble_eq_true rfl)
  rw [lg_entry_eq]
  generalize (lg_sl ([.ref h0, .long xn]) ++ List.replicate (4 - (lg_sl ([.ref h0, .long xn])).length) Slot.unset).toArray = ls at hl ⊢
  have hl : lv_has ls 4 [(0, .ref h0), (1, .long xn)] := hl
  refine lv_iconst (v := 0) hx hb dX2_hasName_0 (by decide +kernel) ?_
  refine lv_istore_n (lv' := [(3, .int 0), (0, .ref h0), (1, .long xn)]) hx hb dX2_hasName_1 rfl hl (by decide +kernel) rfl (fun ls hl => ?_)
  refine lp_ind (I := fun (n : Nat) H locs ls => ∃ (ji : Nat), ji ≤ kn ∧ ji + n = kn + 1 ∧ lv_has ls 4 [(3, .int (nI ji)), (0, .ref h0), (1, .long xn)] ∧ va_P D vwCl [(h0, .inr (2, [.int (nI kc), .int (nI kl), .int xb, .int (nI kn), .int (nI ko), .ref p5, .ref p6, .ref p7, .ref p8, .ref p9, .ref p10, .ref p11, .ref p12, .ref p13])), (p5, .inl (ca 2, 10, .inr (.inl fp5)))] H ∧ va_D A [(h0, .inr (2, [.int (nI kc), .int (nI kl), .int xb, .int (nI kn), .int (nI ko), .ref p5, .ref p6, .ref p7, .ref p8, .ref p9, .ref p10, .ref p11, .ref p12, .ref p13])), (p5, .inl (ca 2, 10, .inr (.inl fp5)))] ∧ va_S A s.heap H locs) (Wf := fun H locs ls => W p l e _ s m _ below meth c H locs _ _ _ (F0 m 2 ls [])) (kn + 1) ⟨0, (by omega), (by omega), hl, hP, hD, hS⟩ ?_ ?_
  · intro H locs ls hI
    obtain ⟨ji, hji, hm, -⟩ := hI
    omega
  intro n ih_1 H locs ls hI
  obtain ⟨ji, hji, hm, hl, hP, hD, hS⟩ := hI
  refine lv_iload_n hx hb dX2_hasName_2 rfl (lv_at hl 0 rfl) ?_
  refine lv_aload_n hx hb dX2_hasName_3 rfl (lv_at hl 1 rfl) ?_
  refine va_get (D := D) (ci := 2) (v := .int (nI kn)) (C := RX2) (T := TX2) (N := 14) hx hb hts iw_X2_hasName_2 hown hC.1 hP 0 rfl rfl 3 (by decide +kernel) (hts (.fieldLink RX2 21 "FairWheel$Plan" "count" "I") (by decide +kernel)) (fun _ h9 => h9) rfl dX2_hasName_4 ?_
  refine lv_icmp_ge (tgt := 29) hx hb dX2_hasName_7 (by decide +kernel) (fun c_2 => ?_) (fun c_2 => ?_)
  · have nc_2 : kn ≤ ji := (nI_leI (a := kn) (b := ji) (by omega) (by omega)).mp c_2
    refine lv_iconst (v := 0) hx hb dX2_hasName_29 (by decide +kernel) ?_
    exact W.zret (v := 0) hx hb hr (rfl) (fun t ht hW => ⟨⟨0, (), rfl, (Or.inl rfl), by rw [ht]; exact hP.sub [0, 1] rfl, hDA (hD.sub [0, 1] (by decide +kernel) rfl)⟩, hS.F ht⟩) hS.2.2 dX2_hasName_30
  · have nc_2 : ¬ (kn ≤ ji) := fun h => c_2 ((nI_leI (a := kn) (b := ji) (by omega) (by omega)).mpr h)
    refine lv_aload_n hx hb dX2_hasName_10 rfl (lv_at hl 1 rfl) ?_
    refine va_get (D := D) (ci := 2) (v := .ref p5) (C := RX2) (T := TX2) (N := 14) hx hb hts iw_X2_hasName_2 hown hC.1 hP 0 rfl rfl 5 (by decide +kernel) (hts (.fieldLink RX2 27 "FairWheel$Plan" "names" "[J") (by decide +kernel)) (fun _ h9 => h9) rfl dX2_hasName_11 ?_
    refine lv_iload_n hx hb dX2_hasName_14 rfl (lv_at hl 0 rfl) ?_
    refine ka_lald hx hb hC.1 hP 1 2 rfl rfl ji rfl (by omega) (by decide +kernel) dX2_hasName_15 ?_
    refine lv_topl (fun y_3 ey_3 => ?_)
    refine lv_lload_n hx hb dX2_hasName_16 rfl (lv_at hl 2 rfl) ?_
    refine W.lcmp hx hb dX2_hasName_17 ?_
    refine lv_topi (fun y_4 ey_4 => ?_)
    refine lv_if_ne (tgt := 23) hx hb dX2_hasName_18 (by decide +kernel) (fun c_5 => ?_) (fun c_5 => ?_)
    · refine lv_iinc (v := nI (ji + 1)) (lv' := [(3, .int (nI (ji + 1))), (0, .ref h0), (1, .long xn)]) hx hb dX2_hasName_23 hl (k := 0) rfl (nI_1 _) (by decide +kernel) rfl (fun ls hl => ?_)
      refine lv_goto (tgt := 2) hx hb dX2_hasName_26 (by decide +kernel) ?_
      exact ih_1 _ _ _ ⟨(ji + 1), (by omega), (by omega), lv_sub hl [0, 1, 2] rfl, hP, hD, hS⟩
    · refine lv_iconst (v := 1) hx hb dX2_hasName_21 (by decide +kernel) ?_
      exact W.zret (v := 1) hx hb hr (rfl) (fun t ht hW => ⟨⟨1, (), rfl, (Or.inr rfl), by rw [ht]; exact hP.sub [0, 1] rfl, hDA (hD.sub [0, 1] (by decide +kernel) rfl)⟩, hS.F ht⟩) hS.2.2 dX2_hasName_22
