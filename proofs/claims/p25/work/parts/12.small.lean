
set_option maxHeartbeats 4000000 in
set_option maxRecDepth 100000 in
theorem s_X2_workAt_p (l : Launch) (D : va_G) (ca : Nat → ClassId) (sz : Nat) (h0 : Nat) (p5 : Nat) (p6 : Nat) (p7 : Nat) (p8 : Nat) (p9 : Nat) (p10 : Nat) (p11 : Nat) (p12 : Nat) (p13 : Nat) (kc : Nat) (kl : Nat) (kn : Nat) (ko : Nat) (xb : Int32) (fp12 : Nat → Int32) (fp13 : Nat → Int32) (x1 : Int32) (hx1 : x1 = -1 ∨ ∃ j : Nat, j < 90 ∧ x1 = nI j) : Met l yX2_workAt wsX2_workAt ({ frames := 0, cells := 0, slots := 0, locals := 0 }) (PC [.ref h0, .int x1] sz D ca [(h0, .inr (2, [.int (nI kc), .int (nI kl), .int xb, .int (nI kn), .int (nI ko), .ref p5, .ref p6, .ref p7, .ref p8, .ref p9, .ref p10, .ref p11, .ref p12, .ref p13])), (p12, .inl (ca 1, 90, .inl fp12)), (p13, .inl (ca 1, 90, .inl fp13))]) (QI (fun (r : Int32) (u : Unit) => True) (fun (_ : Unit) => [(h0, .inr (2, [.int (nI kc), .int (nI kl), .int xb, .int (nI kn), .int (nI ko), .ref p5, .ref p6, .ref p7, .ref p8, .ref p9, .ref p10, .ref p11, .ref p12, .ref p13])), (p12, .inl (ca 1, 90, .inl fp12)), (p13, .inl (ca 1, 90, .inl fp13))]) [(h0, .inr (2, [.int (nI kc), .int (nI kl), .int xb, .int (nI kn), .int (nI ko), .ref p5, .ref p6, .ref p7, .ref p8, .ref p9, .ref p10, .ref p11, .ref p12, .ref p13])), (p12, .inl (ca 1, 90, .inl fp12)), (p13, .inl (ca 1, 90, .inl fp13))] sz D) 0 0 (va_A [(h0, .inr (2, [.int (nI kc), .int (nI kl), .int xb, .int (nI kn), .int (nI ko), .ref p5, .ref p6, .ref p7, .ref p8, .ref p9, .ref p10, .ref p11, .ref p12, .ref p13])), (p12, .inl (ca 1, 90, .inl fp12)), (p13, .inl (ca 1, 90, .inl fp13))] sz) := by
  refine Met.ofW (cc := cX2_workAt) (maxL := 2) (ret := (some .int)) (by decide +kernel) rfl ?_
  intro p e s m args below meth c s₁ B hml hv
  obtain ⟨rfl, hsz, hP, hC, hD0⟩ := hv
  have hx := B.exec
  have hb := B.bytes
  have hr := B.returns
  have hts := atoms_spec (ws := wsX2_workAt) B.pre
  have hown : s.vm.findClass RX2 = some m.cls := findClass_of_methodNamed B.named
  have hlocks := B.notSynchronized
  subst hsz
  have hD := hD0.self (sz := s.heap.size)
  dsimp only [QV, QI, QL, BQ]
  generalize hAe : va_A [(h0, .inr (2, [.int (nI kc), .int (nI kl), .int xb, .int (nI kn), .int (nI ko), .ref p5, .ref p6, .ref p7, .ref p8, .ref p9, .ref p10, .ref p11, .ref p12, .ref p13])), (p12, .inl (ca 1, 90, .inl fp12)), (p13, .inl (ca 1, 90, .inl fp13))] s.heap.size = A at hD ⊢
  have hA : ∀ q : Nat, s.heap.size ≤ q → A q := fun q h => by rw [← hAe]; exact Or.inr h
  have hDA : ∀ {w : va_W}, va_D A w → va_D (va_A [(h0, .inr (2, [.int (nI kc), .int (nI kl), .int xb, .int (nI kn), .int (nI ko), .ref p5, .ref p6, .ref p7, .ref p8, .ref p9, .ref p10, .ref p11, .ref p12, .ref p13])), (p12, .inl (ca 1, 90, .inl fp12)), (p13, .inl (ca 1, 90, .inl fp13))] s.heap.size) w := fun h => by rw [hAe]; exact h
  have hS : va_S A s.heap s.heap [] := va_S.rf
  have hP : va_P D vwCl [(h0, .inr (2, [.int (nI kc), .int (nI kl), .int xb, .int (nI kn), .int (nI ko), .ref p5, .ref p6, .ref p7, .ref p8, .ref p9, .ref p10, .ref p11, .ref p12, .ref p13])), (p12, .inl (ca 1, 90, .inl fp12)), (p13, .inl (ca 1, 90, .inl fp13))] s.heap := hP
  have hl := lv_entry ([.ref h0, .int x1]) (n := 2) (Nat.le_of_ble_eq_true rfl)
  rw [lg_entry_eq]
  generalize (lg_sl ([.ref h0, .int x1]) ++ List.replicate (2 - (lg_sl ([.ref h0, .int x1])).length) Slot.unset).toArray = ls at hl ⊢
  have hl : lv_has ls 2 [(0, .ref h0), (1, .int x1)] := hl
  refine lv_iload_n hx hb dX2_workAt_0 rfl (lv_at hl 1 rfl) ?_
  refine lv_iconst (v := (-1)) hx hb dX2_workAt_1 (by decide +kernel) ?_
  refine lv_icmp_eq (tgt := 16) hx hb dX2_workAt_2 (by decide +kernel) (fun c_1 => ?_) (fun c_1 => ?_)
  · refine lv_iconst (v := 0) hx hb dX2_workAt_16 (by decide +kernel) ?_
    refine lv_goto (tgt := 26) hx hb dX2_workAt_17 (by decide +kernel) ?_
    exact W.iret (v := 0) hx hb hr (fun t ht hW => ⟨⟨0, (), rfl, trivial, by rw [ht]; exact hP.sub [0, 1, 2] rfl, hDA (hD.sub [0, 1, 2] (by decide +kernel) rfl)⟩, hS.F ht⟩) hS.2.2 dX2_workAt_26
  · obtain ⟨j_2, hj_2, rfl⟩ := hx1.resolve_left c_1
    refine lv_aload_n hx hb dX2_workAt_5 rfl (lv_at hl 0 rfl) ?_
    refine va_get (D := D) (ci := 2) (v := .ref p12) (C := RX2) (T := TX2) (N := 14) hx hb hts iw_X2_workAt_2 hown hC.1 hP 0 rfl rfl 12 (by decide +kernel) (hts (.fieldLink RX2 50 "FairWheel$Plan" "codes" "[I") (by decide +kernel)) (fun _ h9 => h9) rfl dX2_workAt_6 ?_
    refine lv_iload_n hx hb dX2_workAt_9 rfl (lv_at hl 1 rfl) ?_
    refine ka_iald hx hb hC.1 hP 1 1 rfl rfl j_2 rfl (by omega) (by decide +kernel) dX2_workAt_10 ?_
    refine lv_topi (fun y_3 ey_3 => ?_)
    refine lv_bipush (v := 12) hx hb dX2_workAt_11 (by decide +kernel) ?_
    refine lv_icmp_eq (tgt := 20) hx hb dX2_workAt_13 (by decide +kernel) (fun c_4 => ?_) (fun c_4 => ?_)
    · refine lv_aload_n hx hb dX2_workAt_20 rfl (lv_at hl 0 rfl) ?_
      refine va_get (D := D) (ci := 2) (v := .ref p13) (C := RX2) (T := TX2) (N := 14) hx hb hts iw_X2_workAt_2 hown hC.1 hP 0 rfl rfl 13 (by decide +kernel) (hts (.fieldLink RX2 53 "FairWheel$Plan" "numbers" "[I") (by decide +kernel)) (fun _ h9 => h9) rfl dX2_workAt_21 ?_
      refine lv_iload_n hx hb dX2_workAt_24 rfl (lv_at hl 1 rfl) ?_
      refine ka_iald hx hb hC.1 hP 2 1 rfl rfl j_2 rfl (by omega) (by decide +kernel) dX2_workAt_25 ?_
      refine lv_topi (fun y_5 ey_5 => ?_)
      exact W.iret (v := y_5) hx hb hr (fun t ht hW => ⟨⟨y_5, (), rfl, trivial, by rw [ht]; exact hP.sub [0, 1, 2] rfl, hDA (hD.sub [0, 1, 2] (by decide +kernel) rfl)⟩, hS.F ht⟩) hS.2.2 dX2_workAt_26
    · refine lv_iconst (v := 0) hx hb dX2_workAt_16 (by decide +kernel) ?_
      refine lv_goto (tgt := 26) hx hb dX2_workAt_17 (by decide +kernel) ?_
      exact W.iret (v := 0) hx hb hr (fun t ht hW => ⟨⟨0, (), rfl, trivial, by rw [ht]; exact hP.sub [0, 1, 2] rfl, hDA (hD.sub [0, 1, 2] (by decide +kernel) rfl)⟩, hS.F ht⟩) hS.2.2 dX2_workAt_26
set_option maxHeartbeats 4000000 in
set_option maxRecDepth 100000 in
theorem s_X10_pick_r (l : Launch) (D : va_G) (ca : Nat → ClassId) (sz : Nat) (x1 : Int32) (k : Nat) (hrk : rok x1) (hk : k < 4) : Met l yX10_pick wsX10_pick ({ frames := 0, cells := 0, slots := 0, locals := 0 }) (PC [.int x1, .int (nI k)] sz D ca []) (QI (fun (r : Int32) (u : Unit) => (r = -1 ∨ ∃ j : Nat, j < 10 ∧ r = nI j)) (fun (_ : Unit) => []) [] sz D) 0 0 (va_A [] sz) := by
  refine Met.ofW (cc := cX10_pick) (maxL := 2) (ret := (some .int)) (by decide +kernel) rfl ?_
  intro p e s m args below meth c s₁ B hml hv
  obtain ⟨rfl, hsz, hP, hC, hD0⟩ := hv
  have hx := B.exec
  have hb := B.bytes
  have hr := B.returns
  have hts := atoms_spec (ws := wsX10_pick) B.pre
  have hown : s.vm.findClass RX10 = some m.cls := findClass_of_methodNamed B.named
  have hlocks := B.notSynchronized
  subst hsz
  have hD := hD0.self (sz := s.heap.size)
  dsimp only [QV, QI, QL, BQ]
  generalize hAe : va_A [] s.heap.size = A at hD ⊢
  have hA : ∀ q : Nat, s.heap.size ≤ q → A q := fun q h => by rw [← hAe]; exact Or.inr h
  have hDA : ∀ {w : va_W}, va_D A w → va_D (va_A [] s.heap.size) w := fun h => by rw [hAe]; exact h
  have hS : va_S A s.heap s.heap [] := va_S.rf
  have hP : va_P D vwCl [] s.heap := hP
  have hl := lv_entry ([.int x1, .int (nI k)]) (n := 2) (Nat.le_of_ble_eq_true rfl)
  rw [lg_entry_eq]
  generalize (lg_sl ([.int x1, .int (nI k)]) ++ List.replicate (2 - (lg_sl ([.int x1, .int (nI k)])).length) Slot.unset).toArray = ls at hl ⊢
  have hl : lv_has ls 2 [(0, .int x1), (1, .int (nI k))] := hl
  refine lv_iload_n hx hb dX10_pick_0 rfl (lv_at hl 0 rfl) ?_
  refine lv_iconst (v := 4) hx hb dX10_pick_1 (by decide +kernel) ?_
  refine lv_iload_n hx hb dX10_pick_2 rfl (lv_at hl 1 rfl) ?_
  refine lv_imul hx hb dX10_pick_3 ?_
  refine nt_i (nI (4 * k)) (pk_mul 4 k) ?_
  refine lv_ishr hx hb dX10_pick_4 ?_
  refine lv_topi (fun y_1 ey_1 => ?_)
  refine lv_bipush (v := 15) hx hb dX10_pick_5 (by decide +kernel) ?_
  refine lv_iand hx hb dX10_pick_7 ?_
  refine lv_topi (fun y_2 ey_2 => ?_)
  refine lv_iconst (v := 1) hx hb dX10_pick_8 (by decide +kernel) ?_
  refine lv_isub hx hb dX10_pick_9 ?_
  refine lv_topi (fun y_3 ey_3 => ?_)
  exact W.iret (v := y_3) hx hb hr (fun t ht hW => ⟨⟨y_3, (), rfl, (rok_pick hrk hk ey_1 ey_2 ey_3), by rw [ht]; exact hP.sub [] rfl, hDA (hD.sub [] (by decide +kernel) rfl)⟩, hS.F ht⟩) hS.2.2 dX10_pick_10
