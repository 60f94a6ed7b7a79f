theorem dX7_at_0 : decode cX7_at 0 = .ok (.iload_n 1, 1) := by decide +kernel
theorem dX7_at_1 : decode cX7_at 1 = .ok (.ifCond .lt 20, 3) := by decide +kernel
theorem dX7_at_4 : decode cX7_at 4 = .ok (.iload_n 1, 1) := by decide +kernel
theorem dX7_at_5 : decode cX7_at 5 = .ok (.aload_n 0, 1) := by decide +kernel
theorem dX7_at_6 : decode cX7_at 6 = .ok (.getfield 15, 3) := by decide +kernel
theorem dX7_at_9 : decode cX7_at 9 = .ok (.if_icmp .ge 12, 3) := by decide +kernel
theorem dX7_at_12 : decode cX7_at 12 = .ok (.iload_n 1, 1) := by decide +kernel
theorem dX7_at_13 : decode cX7_at 13 = .ok (.aload_n 0, 1) := by decide +kernel
theorem dX7_at_14 : decode cX7_at 14 = .ok (.getfield 9, 3) := by decide +kernel
theorem dX7_at_17 : decode cX7_at 17 = .ok (.arraylength, 1) := by decide +kernel
theorem dX7_at_18 : decode cX7_at 18 = .ok (.if_icmp .lt 7, 3) := by decide +kernel
theorem dX7_at_21 : decode cX7_at 21 = .ok (.iconst 0, 1) := by decide +kernel
theorem dX7_at_22 : decode cX7_at 22 = .ok (.goto 13, 3) := by decide +kernel
theorem dX7_at_25 : decode cX7_at 25 = .ok (.aload_n 0, 1) := by decide +kernel
theorem dX7_at_26 : decode cX7_at 26 = .ok (.getfield 9, 3) := by decide +kernel
theorem dX7_at_29 : decode cX7_at 29 = .ok (.iload_n 1, 1) := by decide +kernel
theorem dX7_at_30 : decode cX7_at 30 = .ok (.baload, 1) := by decide +kernel
theorem dX7_at_31 : decode cX7_at 31 = .ok (.sipush 255, 3) := by decide +kernel
theorem dX7_at_34 : decode cX7_at 34 = .ok (.iand, 1) := by decide +kernel
theorem dX7_at_35 : decode cX7_at 35 = .ok (.ireturn, 1) := by decide +kernel
theorem dX7_append_0 : decode cX7_append 0 = .ok (.bipush 24, 2) := by decide +kernel
theorem dX7_append_2 : decode cX7_append 2 = .ok (.istore_n 2, 1) := by decide +kernel
theorem dX7_append_3 : decode cX7_append 3 = .ok (.iload_n 2, 1) := by decide +kernel
theorem dX7_append_4 : decode cX7_append 4 = .ok (.ifCond .lt 44, 3) := by decide +kernel
theorem dX7_append_7 : decode cX7_append 7 = .ok (.aload_n 0, 1) := by decide +kernel
theorem dX7_append_8 : decode cX7_append 8 = .ok (.getfield 15, 3) := by decide +kernel
theorem dX7_append_11 : decode cX7_append 11 = .ok (.aload_n 0, 1) := by decide +kernel
theorem dX7_append_12 : decode cX7_append 12 = .ok (.getfield 9, 3) := by decide +kernel
theorem dX7_append_15 : decode cX7_append 15 = .ok (.arraylength, 1) := by decide +kernel
theorem dX7_append_16 : decode cX7_append 16 = .ok (.if_icmp .ge 32, 3) := by decide +kernel
theorem dX7_append_19 : decode cX7_append 19 = .ok (.aload_n 0, 1) := by decide +kernel
theorem dX7_append_20 : decode cX7_append 20 = .ok (.getfield 9, 3) := by decide +kernel
theorem dX7_append_23 : decode cX7_append 23 = .ok (.aload_n 0, 1) := by decide +kernel
theorem dX7_append_24 : decode cX7_append 24 = .ok (.getfield 15, 3) := by decide +kernel
theorem dX7_append_27 : decode cX7_append 27 = .ok (.iload_n 1, 1) := by decide +kernel
theorem dX7_append_28 : decode cX7_append 28 = .ok (.iload_n 2, 1) := by decide +kernel
theorem dX7_append_29 : decode cX7_append 29 = .ok (.ishr, 1) := by decide +kernel
theorem dX7_append_30 : decode cX7_append 30 = .ok (.i2b, 1) := by decide +kernel
theorem dX7_append_31 : decode cX7_append 31 = .ok (.bastore, 1) := by decide +kernel
theorem dX7_append_32 : decode cX7_append 32 = .ok (.aload_n 0, 1) := by decide +kernel
theorem dX7_append_33 : decode cX7_append 33 = .ok (.dup, 1) := by decide +kernel
theorem dX7_append_34 : decode cX7_append 34 = .ok (.getfield 15, 3) := by decide +kernel
theorem dX7_append_37 : decode cX7_append 37 = .ok (.iconst 1, 1) := by decide +kernel
theorem dX7_append_38 : decode cX7_append 38 = .ok (.iadd, 1) := by decide +kernel
theorem dX7_append_39 : decode cX7_append 39 = .ok (.putfield 15, 3) := by decide +kernel
theorem dX7_append_42 : decode cX7_append 42 = .ok (.iinc 2 (-8), 3) := by decide +kernel
theorem dX7_append_45 : decode cX7_append 45 = .ok (.goto (-42), 3) := by decide +kernel
theorem dX7_append_48 : decode cX7_append 48 = .ok (.return_, 1) := by decide +kernel
theorem iw_X7_at_7 : ∀ w ∈ u_ws RX7 TX7 2, w ∈ wsX7_at := by decide +kernel
set_option maxHeartbeats 4000000 in
set_option maxRecDepth 100000 in
/-- Tape.at: any int -/
theorem s_X7_at (l : Launch) (D : va_G) (ca : Nat → ClassId) (sz : Nat) (h0 : Nat) (tb : Nat) (kt : Nat) (fb : Nat → Int32) (x1 : Int32) (hn : kt ≤ 1700) : Met l yX7_at wsX7_at ({ frames := 0, cells := 0, slots := 0, locals := 0 }) (PC [.ref h0, .int x1] sz D ca [(h0, .inr (7, [.ref tb, .int (nI kt)])), (tb, .inl (ca 0, 1700, .inl fb))]) (QI (fun (r : Int32) (u : Unit) => True) (fun (_ : Unit) => [(h0, .inr (7, [.ref tb, .int (nI kt)])), (tb, .inl (ca 0, 1700, .inl fb))]) [(h0, .inr (7, [.ref tb, .int (nI kt)])), (tb, .inl (ca 0, 1700, .inl fb))] sz D) 0 0 (va_A [(h0, .inr (7, [.ref tb, .int (nI kt)])), (tb, .inl (ca 0, 1700, .inl fb))] sz) := by
  refine Met.ofW (cc := cX7_at) (maxL := 2) (ret := (some .int)) (by decide +kernel) rfl ?_
  intro p e s m args below meth c s₁ B hml hv
  obtain ⟨rfl, hsz, hP, hC, hD0⟩ := hv
  have hx := B.exec
  have hb := B.bytes
  have hr := B.returns
  have hts := atoms_spec (ws := wsX7_at) B.pre
  have hown : s.vm.findClass RX7 = some m.cls := findClass_of_methodNamed B.named
  have hlocks := B.notSynchronized
  subst hsz
  have hD := hD0.self (sz := s.heap.size)
  dsimp only [QV, QI, QL, BQ]
  generalize hAe : va_A [(h0, .inr (7, [.ref tb, .int (nI kt)])), (tb, .inl (ca 0, 1700, .inl fb))] s.heap.size = A at hD ⊢
  have hA : ∀ q : Nat, s.heap.size ≤ q → A q := fun q h => by rw [← hAe]; exact Or.inr h
  have hDA : ∀ {w : va_W}, va_D A w → va_D (va_A [(h0, .inr (7, [.ref tb, .int (nI kt)])), (tb, .inl (ca 0, 1700, .inl fb))] s.heap.size) w := fun h => by rw [hAe]; exact h
  have hS : va_S A s.heap s.heap [] := va_S.rf
  have hP : va_P D vwCl [(h0, .inr (7, [.ref tb, .int (nI kt)])), (tb, .inl (ca 0, 1700, .inl fb))] s.heap := hP
  have hl := lv_entry ([.ref h0, .int x1]) (n := 2) (Nat.le_of_ble_eq_true rfl)
  rw [lg_entry_eq]
  generalize (lg_sl ([.ref h0, .int x1]) ++ List.replicate (2 - (lg_sl ([.ref h0, .int x1])).length) Slot.unset).toArray = ls at hl ⊢
  have hl : lv_has ls 2 [(0, .ref h0), (1, .int x1)] := hl
  refine lv_iload_n hx hb dX7_at_0 rfl (lv_at hl 1 rfl) ?_
  refine lv_if_lt (tgt := 21) hx hb dX7_at_1 (by decide +kernel) (fun c_1 => ?_) (fun c_1 => ?_)
  · refine lv_iconst (v := 0) hx hb dX7_at_21 (by decide +kernel) ?_
    refine lv_goto (tgt := 35) hx hb dX7_at_22 (by decide +kernel) ?_
    exact W.iret (v := 0) hx hb hr (fun t ht hW => ⟨⟨0, (), rfl, trivial, by rw [ht]; exact hP.sub [0, 1] rfl, hDA (hD.sub [0, 1] (by decide +kernel) rfl)⟩, hS.F ht⟩) hS.2.2 dX7_at_35
  · refine lv_iload_n hx hb dX7_at_4 rfl (lv_at hl 1 rfl) ?_
    refine lv_aload_n hx hb dX7_at_5 rfl (lv_at hl 0 rfl) ?_
    refine va_get (D := D) (ci := 7) (v := .int (nI kt)) (C := RX7) (T := TX7) (N := 2) hx hb hts iw_X7_at_7 hown hC.1 hP 0 rfl rfl 1 (by decide +kernel) (hts (.fieldLink RX7 15 "FairWheel$Tape" "size" "I") (by decide +kernel)) (fun _ h9 => h9) rfl dX7_at_6 ?_
    refine lv_icmp_ge (tgt := 21) hx hb dX7_at_9 (by decide +kernel) (fun c_2 => ?_) (fun c_2 => ?_)
    · refine lv_iconst (v := 0) hx hb dX7_at_21 (by decide +kernel) ?_
      refine lv_goto (tgt := 35) hx hb dX7_at_22 (by decide +kernel) ?_
      exact W.iret (v := 0) hx hb hr (fun t ht hW => ⟨⟨0, (), rfl, trivial, by rw [ht]; exact hP.sub [0, 1] rfl, hDA (hD.sub [0, 1] (by decide +kernel) rfl)⟩, hS.F ht⟩) hS.2.2 dX7_at_35
    · refine lv_iload_n hx hb dX7_at_12 rfl (lv_at hl 1 rfl) ?_
      refine lv_aload_n hx hb dX7_at_13 rfl (lv_at hl 0 rfl) ?_
      refine va_get (D := D) (ci := 7) (v := .ref tb) (C := RX7) (T := TX7) (N := 2) hx hb hts iw_X7_at_7 hown hC.1 hP 0 rfl rfl 0 (by decide +kernel) (hts (.fieldLink RX7 9 "FairWheel$Tape" "bytes" "[B") (by decide +kernel)) (fun _ h9 => h9) rfl dX7_at_14 ?_
      refine va_alen (v := 1700) hx hb hC.1 hP 1 0 rfl rfl rfl dX7_at_17 ?_
      refine lv_icmp_lt (tgt := 25) hx hb dX7_at_18 (by decide +kernel) (fun c_3 => ?_) (fun c_3 => ?_)
      · obtain ⟨k, hk, rfl⟩ := nI_of c_1
        have nc_2 : ¬ (kt ≤ k) := fun h => c_2 ((nI_leI (a := kt) (b := k) (by omega) (by omega)).mpr h)
        have nc_3 : k < 1700 := (nI_ltI (a := k) (b := 1700) (by omega) (by omega)).mp c_3
        refine lv_aload_n hx hb dX7_at_25 rfl (lv_at hl 0 rfl) ?_
        refine va_get (D := D) (ci := 7) (v := .ref tb) (C := RX7) (T := TX7) (N := 2) hx hb hts iw_X7_at_7 hown hC.1 hP 0 rfl rfl 0 (by decide +kernel) (hts (.fieldLink RX7 9 "FairWheel$Tape" "bytes" "[B") (by decide +kernel)) (fun _ h9 => h9) rfl dX7_at_26 ?_
        refine lv_iload_n hx hb dX7_at_29 rfl (lv_at hl 1 rfl) ?_
        refine ka_bald hx hb hC.1 hP 1 0 rfl rfl k rfl (by omega) (by decide +kernel) dX7_at_30 ?_
        refine lv_topi (fun y_4 ey_4 => ?_)
        refine lv_sipush (v := 255) hx hb dX7_at_31 (by decide +kernel) ?_
        refine lv_iand hx hb dX7_at_34 ?_
        refine lv_topi (fun y_5 ey_5 => ?_)
        exact W.iret (v := y_5) hx hb hr (fun t ht hW => ⟨⟨y_5, (), rfl, trivial, by rw [ht]; exact hP.sub [0, 1] rfl, hDA (hD.sub [0, 1] (by decide +kernel) rfl)⟩, hS.F ht⟩) hS.2.2 dX7_at_35
      · refine lv_iconst (v := 0) hx hb dX7_at_21 (by decide +kernel) ?_
        refine lv_goto (tgt := 35) hx hb dX7_at_22 (by decide +kernel) ?_
        exact W.iret (v := 0) hx hb hr (fun t ht hW => ⟨⟨0, (), rfl, trivial, by rw [ht]; exact hP.sub [0, 1] rfl, hDA (hD.sub [0, 1] (by decide +kernel) rfl)⟩, hS.F ht⟩) hS.2.2 dX7_at_35
theorem iw_X7_append_7 : ∀ w ∈ u_ws RX7 TX7 2, w ∈ wsX7_append := by decide +kernel
set_option maxHeartbeats 4000000 in
set_option maxRecDepth 100000 in
/-- Tape.append: the size stays within -/
theorem s_X7_append (l : Launch) (D : va_G) (ca : Nat → ClassId) (sz : Nat) (h0 : Nat) (tb : Nat) (kt : Nat) (fb : Nat → Int32) (x1 : Int32) (hn : kt ≤ 1700) : Met l yX7_append wsX7_append ({ frames := 0, cells := 0, slots := 0, locals := 0 }) (PC [.ref h0, .int x1] sz D ca [(h0, .inr (7, [.ref tb, .int (nI kt)])), (tb, .inl (ca 0, 1700, .inl fb))]) (QV (fun (u : Nat × (Nat → Int32)) => u.1 ≤ 1700) (fun (u : Nat × (Nat → Int32)) => [(h0, .inr (7, [.ref tb, .int (nI u.1)])), (tb, .inl (ca 0, 1700, .inl u.2))]) [(h0, .inr (7, [.ref tb, .int (nI kt)])), (tb, .inl (ca 0, 1700, .inl fb))] sz D) 0 0 (va_A [(h0, .inr (7, [.ref tb, .int (nI kt)])), (tb, .inl (ca 0, 1700, .inl fb))] sz) := by
  refine Met.ofW (cc := cX7_append) (maxL := 3) (ret := none) (by decide +kernel) rfl ?_
  intro p e s m args below meth c s₁ B hml hv
  obtain ⟨rfl, hsz, hP, hC, hD0⟩ := hv
  have hx := B.exec
  have hb := B.bytes
  have hr := B.returns
  have hts := atoms_spec (ws := wsX7_append) B.pre
  have hown : s.vm.findClass RX7 = some m.cls := findClass_of_methodNamed B.named
  have hlocks := B.notSynchronized
  subst hsz
  have hD := hD0.self (sz := s.heap.size)
  dsimp only [QV, QI, QL, BQ]
  generalize hAe : va_A [(h0, .inr (7, [.ref tb, .int (nI kt)])), (tb, .inl (ca 0, 1700, .inl fb))] s.heap.size = A at hD ⊢
  have hA : ∀ q : Nat, s.heap.size ≤ q → A q := fun q h => by rw [← hAe]; exact Or.inr h
  have hDA : ∀ {w : va_W}, va_D A w → va_D (va_A [(h0, .inr (7, [.ref tb, .int (nI kt)])), (tb, .inl (ca 0, 1700, .inl fb))] s.heap.size) w := fun h => by rw [hAe]; exact h
  have hS : va_S A s.heap s.heap [] := va_S.rf
  have hP : va_P D vwCl [(h0, .inr (7, [.ref tb, .int (nI kt)])), (tb, .inl (ca 0, 1700, .inl fb))] s.heap := hP
  have hl := lv_entry ([.ref h0, .int x1]) (n := 3) (Nat.le_of_ble_eq_true rfl)
  rw [lg_entry_eq]
  generalize (lg_sl ([.ref h0, .int x1]) ++ List.replicate (3 - (lg_sl ([.ref h0, .int x1])).length) Slot.unset).toArray = ls at hl ⊢
  have hl : lv_has ls 3 [(0, .ref h0), (1, .int x1)] := hl
  refine lv_bipush (v := 24) hx hb dX7_append_0 (by decide +kernel) ?_
  refine lv_istore_n (lv' := [(2, .int 24), (0, .ref h0), (1, .int x1)]) hx hb dX7_append_2 rfl hl (by decide +kernel) rfl (fun ls hl => ?_)
  refine lv_iload_n hx hb dX7_append_3 rfl (lv_at hl 0 rfl) ?_
  refine lv_if_lt (tgt := 48) hx hb dX7_append_4 (by decide +kernel) (fun c_1 => absurd c_1 (by decide +kernel)) (fun c_1 => ?_)
  refine lv_aload_n hx hb dX7_append_7 rfl (lv_at hl 1 rfl) ?_
  refine va_get (D := D) (ci := 7) (v := .int (nI kt)) (C := RX7) (T := TX7) (N := 2) hx hb hts iw_X7_append_7 hown hC.1 hP 0 rfl rfl 1 (by decide +kernel) (hts (.fieldLink RX7 15 "FairWheel$Tape" "size" "I") (by decide +kernel)) (fun _ h9 => h9) rfl dX7_append_8 ?_
  refine lv_aload_n hx hb dX7_append_11 rfl (lv_at hl 1 rfl) ?_
  refine va_get (D := D) (ci := 7) (v := .ref tb) (C := RX7) (T := TX7) (N := 2) hx hb hts iw_X7_append_7 hown hC.1 hP 0 rfl rfl 0 (by decide +kernel) (hts (.fieldLink RX7 9 "FairWheel$Tape" "bytes" "[B") (by decide +kernel)) (fun _ h9 => h9) rfl dX7_append_12 ?_
  refine va_alen (v := 1700) hx hb hC.1 hP 1 0 rfl rfl rfl dX7_append_15 ?_
  refine lv_icmp_ge (tgt := 48) hx hb dX7_append_16 (by decide +kernel) (fun c_2 => ?_) (fun c_2 => ?_)
  · have nc_2 : 1700 ≤ kt := (nI_leI (a := 1700) (b := kt) (by omega) (by omega)).mp c_2
    exact W.vret hx hb hr (fun t ht hW => ⟨⟨(kt, fb), rfl, (by dsimp only; omega), by rw [ht]; exact hP.sub [0, 1] rfl, hDA (hD.sub [0, 1] (by decide +kernel) rfl)⟩, hS.F ht⟩) hS.2.2 dX7_append_48
  · have nc_2 : ¬ (1700 ≤ kt) := fun h => c_2 ((nI_leI (a := 1700) (b := kt) (by omega) (by omega)).mpr h)
    refine lv_aload_n hx hb dX7_append_19 rfl (lv_at hl 1 rfl) ?_
    refine va_get (D := D) (ci := 7) (v := .ref tb) (C := RX7) (T := TX7) (N := 2) hx hb hts iw_X7_append_7 hown hC.1 hP 0 rfl rfl 0 (by decide +kernel) (hts (.fieldLink RX7 9 "FairWheel$Tape" "bytes" "[B") (by decide +kernel)) (fun _ h9 => h9) rfl dX7_append_20 ?_
    refine lv_aload_n hx hb dX7_append_23 rfl (lv_at hl 1 rfl) ?_
    refine va_get (D := D) (ci := 7) (v := .int (nI kt)) (C := RX7) (T := TX7) (N := 2) hx hb hts iw_X7_append_7 hown hC.1 hP 0 rfl rfl 1 (by decide +kernel) (hts (.fieldLink RX7 15 "FairWheel$Tape" "size" "I") (by decide +kernel)) (fun _ h9 => h9) rfl dX7_append_24 ?_
    refine lv_iload_n hx hb dX7_append_27 rfl (lv_at hl 2 rfl) ?_
    refine lv_iload_n hx hb dX7_append_28 rfl (lv_at hl 0 rfl) ?_
    refine lv_ishr hx hb dX7_append_29 ?_
    refine lv_topi (fun y_3 ey_3 => ?_)
    obtain ⟨y_4, ey_4⟩ : ∃ z : Int32, z = Int8.toInt32 (Int32.toInt8 y_3) := ⟨_, rfl⟩
    refine lv_i2b (v := y_4) hx hb dX7_append_30 ey_4.symm ?_
    refine ka_bast hx hb hC.1 hP hD hS 1 0 rfl rfl kt rfl (by omega) (by decide +kernel) dX7_append_31 (fun H locs hP hD hS => ?_)
    have hP : va_P D vwCl [(h0, .inr (7, [.ref tb, .int (nI kt)])), (tb, .inl (ca 0, 1700, .inl (upd fb kt (vp_nar .byte y_4))))] H := hP
    have hD : va_D A [(h0, .inr (7, [.ref tb, .int (nI kt)])), (tb, .inl (ca 0, 1700, .inl (upd fb kt (vp_nar .byte y_4))))] := hD
    generalize (upd fb kt (vp_nar .byte y_4)) = f_5 at hP hD
    refine lv_aload_n hx hb dX7_append_32 rfl (lv_at hl 1 rfl) ?_
    refine lv_dup hx hb dX7_append_33 rfl ?_
    refine va_get (D := D) (ci := 7) (v := .int (nI kt)) (C := RX7) (T := TX7) (N := 2) hx hb hts iw_X7_append_7 hown hC.1 hP 0 rfl rfl 1 (by decide +kernel) (hts (.fieldLink RX7 15 "FairWheel$Tape" "size" "I") (by decide +kernel)) (fun _ h9 => h9) rfl dX7_append_34 ?_
    refine lv_iconst (v := 1) hx hb dX7_append_37 (by decide +kernel) ?_
    refine lv_iadd hx hb dX7_append_38 ?_
    refine nt_i (nI (kt + 1)) (nI_add kt 1) ?_
    refine va_put (D := D) (ci := 7) (v := .int (nI (kt + 1))) (ty := .int) (C := RX7) (T := TX7) (N := 2) hx hb hts iw_X7_append_7 tyX7 tyX7_ok nmX7 hown hC.1 hP hD hS 0 rfl rfl 1 (by decide +kernel) (hts (.fieldLink RX7 15 "FairWheel$Tape" "size" "I") (by decide +kernel)) (fun _ h9 => h9) rfl (by decide +kernel) rfl rfl (Nat.le_of_ble_eq_true rfl) dX7_append_39 (fun H locs hP hD hS => ?_)
    have hP : va_P D vwCl [(h0, .inr (7, [.ref tb, .int (nI (kt + 1))])), (tb, .inl (ca 0, 1700, .inl f_5))] H := hP
    have hD : va_D A [(h0, .inr (7, [.ref tb, .int (nI (kt + 1))])), (tb, .inl (ca 0, 1700, .inl f_5))] := hD
    refine lv_iinc (v := 16) (lv' := [(2, .int 16), (0, .ref h0), (1, .int x1)]) hx hb dX7_append_42 hl (k := 0) rfl (by decide +kernel) (by decide +kernel) rfl (fun ls hl => ?_)
    refine lv_goto (tgt := 3) hx hb dX7_append_45 (by decide +kernel) ?_
    refine lv_iload_n hx hb dX7_append_3 rfl (lv_at hl 0 rfl) ?_
    refine lv_if_lt (tgt := 48) hx hb dX7_append_4 (by decide +kernel) (fun c_6 => absurd c_6 (by decide +kernel)) (fun c_6 => ?_)
    refine lv_aload_n hx hb dX7_append_7 rfl (lv_at hl 1 rfl) ?_
    refine va_get (D := D) (ci := 7) (v := .int (nI (kt + 1))) (C := RX7) (T := TX7) (N := 2) hx hb hts iw_X7_append_7 hown hC.1 hP 0 rfl rfl 1 (by decide +kernel) (hts (.fieldLink RX7 15 "FairWheel$Tape" "size" "I") (by decide +kernel)) (fun _ h9 => h9) rfl dX7_append_8 ?_
    refine lv_aload_n hx hb dX7_append_11 rfl (lv_at hl 1 rfl) ?_
    refine va_get (D := D) (ci := 7) (v := .ref tb) (C := RX7) (T := TX7) (N := 2) hx hb hts iw_X7_append_7 hown hC.1 hP 0 rfl rfl 0 (by decide +kernel) (hts (.fieldLink RX7 9 "FairWheel$Tape" "bytes" "[B") (by decide +kernel)) (fun _ h9 => h9) rfl dX7_append_12 ?_
    refine va_alen (v := 1700) hx hb hC.1 hP 1 0 rfl rfl rfl dX7_append_15 ?_
    refine lv_icmp_ge (tgt := 48) hx hb dX7_append_16 (by decide +kernel) (fun c_7 => ?_) (fun c_7 => ?_)
    · have nc_7 : 1700 ≤ (kt + 1) := (nI_leI (a := 1700) (b := (kt + 1)) (by omega) (by omega)).mp c_7
      exact W.vret hx hb hr (fun t ht hW => ⟨⟨((kt + 1), f_5), rfl, (by dsimp only; omega), by rw [ht]; exact hP.sub [0, 1] rfl, hDA (hD.sub [0, 1] (by decide +kernel) rfl)⟩, hS.F ht⟩) hS.2.2 dX7_append_48
    · have nc_7 : ¬ (1700 ≤ (kt + 1)) := fun h => c_7 ((nI_leI (a := 1700) (b := (kt + 1)) (by omega) (by omega)).mpr h)
      refine lv_aload_n hx hb dX7_append_19 rfl (lv_at hl 1 rfl) ?_
      refine va_get (D := D) (ci := 7) (v := .ref tb) (C := RX7) (T := TX7) (N := 2) hx hb hts iw_X7_append_7 hown hC.1 hP 0 rfl rfl 0 (by decide +kernel) (hts (.fieldLink RX7 9 "FairWheel$Tape" "bytes" "[B") (by decide +kernel)) (fun _ h9 => h9) rfl dX7_append_20 ?_
      refine lv_aload_n hx hb dX7_append_23 rfl (lv_at hl 1 rfl) ?_
      refine va_get (D := D) (ci := 7) (v := .int (nI (kt + 1))) (C := RX7) (T := TX7) (N := 2) hx hb hts iw_X7_append_7 hown hC.1 hP 0 rfl rfl 1 (by decide +kernel) (hts (.fieldLink RX7 15 "FairWheel$Tape" "size" "I") (by decide +kernel)) (fun _ h9 => h9) rfl dX7_append_24 ?_
      refine lv_iload_n hx hb dX7_append_27 rfl (lv_at hl 2 rfl) ?_
      refine lv_iload_n hx hb dX7_append_28 rfl (lv_at hl 0 rfl) ?_
      refine lv_ishr hx hb dX7_append_29 ?_
      refine lv_topi (fun y_8 ey_8 => ?_)
      obtain ⟨y_9, ey_9⟩ : ∃ z : Int32, z = Int8.toInt32 (Int32.toInt8 y_8) := ⟨_, rfl⟩
      refine lv_i2b (v := y_9) hx hb dX7_append_30 ey_9.symm ?_
      refine ka_bast hx hb hC.1 hP hD hS 1 0 rfl rfl (kt + 1) rfl (by omega) (by decide +kernel) dX7_append_31 (fun H locs hP hD hS => ?_)
      have hP : va_P D vwCl [(h0, .inr (7, [.ref tb, .int (nI (kt + 1))])), (tb, .inl (ca 0, 1700, .inl (upd f_5 (kt + 1) (vp_nar .byte y_9))))] H := hP
      have hD : va_D A [(h0, .inr (7, [.ref tb, .int (nI (kt + 1))])), (tb, .inl (ca 0, 1700, .inl (upd f_5 (kt + 1) (vp_nar .byte y_9))))] := hD
      generalize (upd f_5 (kt + 1) (vp_nar .byte y_9)) = f_10 at hP hD
      refine lv_aload_n hx hb dX7_append_32 rfl (lv_at hl 1 rfl) ?_
      refine lv_dup hx hb dX7_append_33 rfl ?_
      refine va_get (D := D) (ci := 7) (v := .int (nI (kt + 1))) (C := RX7) (T := TX7) (N := 2) hx hb hts iw_X7_append_7 hown hC.1 hP 0 rfl rfl 1 (by decide +kernel) (hts (.fieldLink RX7 15 "FairWheel$Tape" "size" "I") (by decide +kernel)) (fun _ h9 => h9) rfl dX7_append_34 ?_
      refine lv_iconst (v := 1) hx hb dX7_append_37 (by decide +kernel) ?_
      refine lv_iadd hx hb dX7_append_38 ?_
      refine nt_i (nI ((kt + 1) + 1)) (nI_add (kt + 1) 1) ?_
      refine va_put (D := D) (ci := 7) (v := .int (nI ((kt + 1) + 1))) (ty := .int) (C := RX7) (T := TX7) (N := 2) hx hb hts iw_X7_append_7 tyX7 tyX7_ok nmX7 hown hC.1 hP hD hS 0 rfl rfl 1 (by decide +kernel) (hts (.fieldLink RX7 15 "FairWheel$Tape" "size" "I") (by decide +kernel)) (fun _ h9 => h9) rfl (by decide +kernel) rfl rfl (Nat.le_of_ble_eq_true rfl) dX7_append_39 (fun H locs hP hD hS => ?_)
      have hP : va_P D vwCl [(h0, .inr (7, [.ref tb, .int (nI ((kt + 1) + 1))])), (tb, .inl (ca 0, 1700, .inl f_10))] H := hP
      have hD : va_D A [(h0, .inr (7, [.ref tb, .int (nI ((kt + 1) + 1))])), (tb, .inl (ca 0, 1700, .inl f_10))] := hD
      refine lv_iinc (v := 8) (lv' := [(2, .int 8), (0, .ref h0), (1, .int x1)]) hx hb dX7_append_42 hl (k := 0) rfl (by decide +kernel) (by decide +kernel) rfl (fun ls hl => ?_)
      refine lv_goto (tgt := 3) hx hb dX7_append_45 (by decide +kernel) ?_
      refine lv_iload_n hx hb dX7_append_3 rfl (lv_at hl 0 rfl) ?_
      refine lv_if_lt (tgt := 48) hx hb dX7_append_4 (by decide +kernel) (fun c_11 => absurd c_11 (by decide +kernel)) (fun c_11 => ?_)
      refine lv_aload_n hx hb dX7_append_7 rfl (lv_at hl 1 rfl) ?_
      refine va_get (D := D) (ci := 7) (v := .int (nI ((kt + 1) + 1))) (C := RX7) (T := TX7) (N := 2) hx hb hts iw_X7_append_7 hown hC.1 hP 0 rfl rfl 1 (by decide +kernel) (hts (.fieldLink RX7 15 "FairWheel$Tape" "size" "I") (by decide +kernel)) (fun _ h9 => h9) rfl dX7_append_8 ?_
      refine lv_aload_n hx hb dX7_append_11 rfl (lv_at hl 1 rfl) ?_
      refine va_get (D := D) (ci := 7) (v := .ref tb) (C := RX7) (T := TX7) (N := 2) hx hb hts iw_X7_append_7 hown hC.1 hP 0 rfl rfl 0 (by decide +kernel) (hts (.fieldLink RX7 9 "FairWheel$Tape" "bytes" "[B") (by decide +kernel)) (fun _ h9 => h9) rfl dX7_append_12 ?_
      refine va_alen (v := 1700) hx hb hC.1 hP 1 0 rfl rfl rfl dX7_append_15 ?_
      refine lv_icmp_ge (tgt := 48) hx hb dX7_append_16 (by decide +kernel) (fun c_12 => ?_) (fun c_12 => ?_)
      · have nc_12 : 1700 ≤ ((kt + 1) + 1) := (nI_leI (a := 1700) (b := ((kt + 1) + 1)) (by omega) (by omega)).mp c_12
        exact W.vret hx hb hr (fun t ht hW => ⟨⟨(((kt + 1) + 1), f_10), rfl, (by dsimp only; omega), by rw [ht]; exact hP.sub [0, 1] rfl, hDA (hD.sub [0, 1] (by decide +kernel) rfl)⟩, hS.F ht⟩) hS.2.2 dX7_append_48
      · have nc_12 : ¬ (1700 ≤ ((kt + 1) + 1)) := fun h => c_12 ((nI_leI (a := 1700) (b := ((kt + 1) + 1)) (by omega) (by omega)).mpr h)
        refine lv_aload_n hx hb dX7_append_19 rfl (lv_at hl 1 rfl) ?_
        refine va_get (D := D) (ci := 7) (v := .ref tb) (C := RX7) (T := TX7) (N := 2) hx hb hts iw_X7_append_7 hown hC.1 hP 0 rfl rfl 0 (by decide +kernel) (hts (.fieldLink RX7 9 "FairWheel$Tape" "bytes" "[B") (by decide +kernel)) (fun _ h9 => h9) rfl dX7_append_20 ?_
        refine lv_aload_n hx hb dX7_append_23 rfl (lv_at hl 1 rfl) ?_
        refine va_get (D := D) (ci := 7) (v := .int (nI ((kt + 1) + 1))) (C := RX7) (T := TX7) (N := 2) hx hb hts iw_X7_append_7 hown hC.1 hP 0 rfl rfl 1 (by decide +kernel) (hts (.fieldLink RX7 15 "FairWheel$Tape" "size" "I") (by decide +kernel)) (fun _ h9 => h9) rfl dX7_append_24 ?_
        refine lv_iload_n hx hb dX7_append_27 rfl (lv_at hl 2 rfl) ?_
        refine lv_iload_n hx hb dX7_append_28 rfl (lv_at hl 0 rfl) ?_
        refine lv_ishr hx hb dX7_append_29 ?_
        refine lv_topi (fun y_13 ey_13 => ?_)
        obtain ⟨y_14, ey_14⟩ : ∃ z : Int32, z = Int8.toInt32 (Int32.toInt8 y_13) := ⟨_, rfl⟩
        refine lv_i2b (v := y_14) hx hb dX7_append_30 ey_14.symm ?_
        refine ka_bast hx hb hC.1 hP hD hS 1 0 rfl rfl ((kt + 1) + 1) rfl (by omega) (by decide +kernel) dX7_append_31 (fun H locs hP hD hS => ?_)
        have hP : va_P D vwCl [(h0, .inr (7, [.ref tb, .int (nI ((kt + 1) + 1))])), (tb, .inl (ca 0, 1700, .inl (upd f_10 ((kt + 1) + 1) (vp_nar .byte y_14))))] H := hP
        have hD : va_D A [(h0, .inr (7, [.ref tb, .int (nI ((kt + 1) + 1))])), (tb, .inl (ca 0, 1700, .inl (upd f_10 ((kt + 1) + 1) (vp_nar .byte y_14))))] := hD
        generalize (upd f_10 ((kt + 1) + 1) (vp_nar .byte y_14)) = f_15 at hP hD
        refine lv_aload_n hx hb dX7_append_32 rfl (lv_at hl 1 rfl) ?_
        refine lv_dup hx hb dX7_append_33 rfl ?_
        refine va_get (D := D) (ci := 7) (v := .int (nI ((kt + 1) + 1))) (C := RX7) (T := TX7) (N := 2) hx hb hts iw_X7_append_7 hown hC.1 hP 0 rfl rfl 1 (by decide +kernel) (hts (.fieldLink RX7 15 "FairWheel$Tape" "size" "I") (by decide +kernel)) (fun _ h9 => h9) rfl dX7_append_34 ?_
        refine lv_iconst (v := 1) hx hb dX7_append_37 (by decide +kernel) ?_
        refine lv_iadd hx hb dX7_append_38 ?_
        refine nt_i (nI (((kt + 1) + 1) + 1)) (nI_add ((kt + 1) + 1) 1) ?_
        refine va_put (D := D) (ci := 7) (v := .int (nI (((kt + 1) + 1) + 1))) (ty := .int) (C := RX7) (T := TX7) (N := 2) hx hb hts iw_X7_append_7 tyX7 tyX7_ok nmX7 hown hC.1 hP hD hS 0 rfl rfl 1 (by decide +kernel) (hts (.fieldLink RX7 15 "FairWheel$Tape" "size" "I") (by decide +kernel)) (fun _ h9 => h9) rfl (by decide +kernel) rfl rfl (Nat.le_of_ble_eq_true rfl) dX7_append_39 (fun H locs hP hD hS => ?_)
        have hP : va_P D vwCl [(h0, .inr (7, [.ref tb, .int (nI (((kt + 1) + 1) + 1))])), (tb, .inl (ca 0, 1700, .inl f_15))] H := hP
        have hD : va_D A [(h0, .inr (7, [.ref tb, .int (nI (((kt + 1) + 1) + 1))])), (tb, .inl (ca 0, 1700, .inl f_15))] := hD
        refine lv_iinc (v := 0) (lv' := [(2, .int 0), (0, .ref h0), (1, .int x1)]) hx hb dX7_append_42 hl (k := 0) rfl (by decide +kernel) (by decide +kernel) rfl (fun ls hl => ?_)
        refine lv_goto (tgt := 3) hx hb dX7_append_45 (by decide +kernel) ?_
        refine lv_iload_n hx hb dX7_append_3 rfl (lv_at hl 0 rfl) ?_
        refine lv_if_lt (tgt := 48) hx hb dX7_append_4 (by decide +kernel) (fun c_16 => absurd c_16 (by decide +kernel)) (fun c_16 => ?_)
        refine lv_aload_n hx hb dX7_append_7 rfl (lv_at hl 1 rfl) ?_
        refine va_get (D := D) (ci := 7) (v := .int (nI (((kt + 1) + 1) + 1))) (C := RX7) (T := TX7) (N := 2) hx hb hts iw_X7_append_7 hown hC.1 hP 0 rfl rfl 1 (by decide +kernel) (hts (.fieldLink RX7 15 "FairWheel$Tape" "size" "I") (by decide +kernel)) (fun _ h9 => h9) rfl dX7_append_8 ?_
        refine lv_aload_n hx hb dX7_append_11 rfl (lv_at hl 1 rfl) ?_
        refine va_get (D := D) (ci := 7) (v := .ref tb) (C := RX7) (T := TX7) (N := 2) hx hb hts iw_X7_append_7 hown hC.1 hP 0 rfl rfl 0 (by decide +kernel) (hts (.fieldLink RX7 9 "FairWheel$Tape" "bytes" "[B") (by decide +kernel)) (fun _ h9 => h9) rfl dX7_append_12 ?_
        refine va_alen (v := 1700) hx hb hC.1 hP 1 0 rfl rfl rfl dX7_append_15 ?_
        refine lv_icmp_ge (tgt := 48) hx hb dX7_append_16 (by decide +kernel) (fun c_17 => ?_) (fun c_17 => ?_)
        · have nc_17 : 1700 ≤ (((kt + 1) + 1) + 1) := (nI_leI (a := 1700) (b := (((kt + 1) + 1) + 1)) (by omega) (by omega)).mp c_17
          exact W.vret hx hb hr (fun t ht hW => ⟨⟨((((kt + 1) + 1) + 1), f_15), rfl, (by dsimp only; omega), by rw [ht]; exact hP.sub [0, 1] rfl, hDA (hD.sub [0, 1] (by decide +kernel) rfl)⟩, hS.F ht⟩) hS.2.2 dX7_append_48
        · have nc_17 : ¬ (1700 ≤ (((kt + 1) + 1) + 1)) := fun h => c_17 ((nI_leI (a := 1700) (b := (((kt + 1) + 1) + 1)) (by omega) (by omega)).mpr h)
          refine lv_aload_n hx hb dX7_append_19 rfl (lv_at hl 1 rfl) ?_
          refine va_get (D := D) (ci := 7) (v := .ref tb) (C := RX7) (T := TX7) (N := 2) hx hb hts iw_X7_append_7 hown hC.1 hP 0 rfl rfl 0 (by decide +kernel) (hts (.fieldLink RX7 9 "FairWheel$Tape" "bytes" "[B") (by decide +kernel)) (fun _ h9 => h9) rfl dX7_append_20 ?_
          refine lv_aload_n hx hb dX7_append_23 rfl (lv_at hl 1 rfl) ?_
          refine va_get (D := D) (ci := 7) (v := .int (nI (((kt + 1) + 1) + 1))) (C := RX7) (T := TX7) (N := 2) hx hb hts iw_X7_append_7 hown hC.1 hP 0 rfl rfl 1 (by decide +kernel) (hts (.fieldLink RX7 15 "FairWheel$Tape" "size" "I") (by decide +kernel)) (fun _ h9 => h9) rfl dX7_append_24 ?_
          refine lv_iload_n hx hb dX7_append_27 rfl (lv_at hl 2 rfl) ?_
          refine lv_iload_n hx hb dX7_append_28 rfl (lv_at hl 0 rfl) ?_
          refine lv_ishr hx hb dX7_append_29 ?_
          refine lv_topi (fun y_18 ey_18 => ?_)
          obtain ⟨y_19, ey_19⟩ : ∃ z : Int32, z = Int8.toInt32 (Int32.toInt8 y_18) := ⟨_, rfl⟩
          refine lv_i2b (v := y_19) hx hb dX7_append_30 ey_19.symm ?_
          refine ka_bast hx hb hC.1 hP hD hS 1 0 rfl rfl (((kt + 1) + 1) + 1) rfl (by omega) (by decide +kernel) dX7_append_31 (fun H locs hP hD hS => ?_)
          have hP : va_P D vwCl [(h0, .inr (7, [.ref tb, .int (nI (((kt + 1) + 1) + 1))])), (tb, .inl (ca 0, 1700, .inl (upd f_15 (((kt + 1) + 1) + 1) (vp_nar .byte y_19))))] H := hP
          have hD : va_D A [(h0, .inr (7, [.ref tb, .int (nI (((kt + 1) + 1) + 1))])), (tb, .inl (ca 0, 1700, .inl (upd f_15 (((kt + 1) + 1) + 1) (vp_nar .byte y_19))))] := hD
          generalize (upd f_15 (((kt + 1) + 1) + 1) (vp_nar .byte y_19)) = f_20 at hP hD
          refine lv_aload_n hx hb dX7_append_32 rfl (lv_at hl 1 rfl) ?_
          refine lv_dup hx hb dX7_append_33 rfl ?_
          refine va_get (D := D) (ci := 7) (v := .int (nI (((kt + 1) + 1) + 1))) (C := RX7) (T := TX7) (N := 2) hx hb hts iw_X7_append_7 hown hC.1 hP 0 rfl rfl 1 (by decide +kernel) (hts (.fieldLink RX7 15 "FairWheel$Tape" "size" "I") (by decide +kernel)) (fun _ h9 => h9) rfl dX7_append_34 ?_
          refine lv_iconst (v := 1) hx hb dX7_append_37 (by decide +kernel) ?_
          refine lv_iadd hx hb dX7_append_38 ?_
          refine nt_i (nI ((((kt + 1) + 1) + 1) + 1)) (nI_add (((kt + 1) + 1) + 1) 1) ?_
          refine va_put (D := D) (ci := 7) (v := .int (nI ((((kt + 1) + 1) + 1) + 1))) (ty := .int) (C := RX7) (T := TX7) (N := 2) hx hb hts iw_X7_append_7 tyX7 tyX7_ok nmX7 hown hC.1 hP hD hS 0 rfl rfl 1 (by decide +kernel) (hts (.fieldLink RX7 15 "FairWheel$Tape" "size" "I") (by decide +kernel)) (fun _ h9 => h9) rfl (by decide +kernel) rfl rfl (Nat.le_of_ble_eq_true rfl) dX7_append_39 (fun H locs hP hD hS => ?_)
          have hP : va_P D vwCl [(h0, .inr (7, [.ref tb, .int (nI ((((kt + 1) + 1) + 1) + 1))])), (tb, .inl (ca 0, 1700, .inl f_20))] H := hP
          have hD : va_D A [(h0, .inr (7, [.ref tb, .int (nI ((((kt + 1) + 1) + 1) + 1))])), (tb, .inl (ca 0, 1700, .inl f_20))] := hD
          refine lv_iinc (v := (-8)) (lv' := [(2, .int (-8)), (0, .ref h0), (1, .int x1)]) hx hb dX7_append_42 hl (k := 0) rfl (by decide +kernel) (by decide +kernel) rfl (fun ls hl => ?_)
          refine lv_goto (tgt := 3) hx hb dX7_append_45 (by decide +kernel) ?_
          refine lv_iload_n hx hb dX7_append_3 rfl (lv_at hl 0 rfl) ?_
          refine lv_if_lt (tgt := 48) hx hb dX7_append_4 (by decide +kernel) (fun c_21 => ?_) (fun c_21 => absurd (by decide +kernel) c_21)
          exact W.vret hx hb hr (fun t ht hW => ⟨⟨(((((kt + 1) + 1) + 1) + 1), f_20), rfl, (by dsimp only; omega), by rw [ht]; exact hP.sub [0, 1] rfl, hDA (hD.sub [0, 1] (by decide +kernel) rfl)⟩, hS.F ht⟩) hS.2.2 dX7_append_48
