theorem dX3_mostOf_0 : decode cX3_mostOf 0 = .ok (.iload_n 0, 1) := by decide +kernel
theorem dX3_mostOf_1 : decode cX3_mostOf 1 = .ok (.lookupswitch 32 #[(0, 27), (1, 29)], 27) := by decide +kernel
theorem dX3_mostOf_28 : decode cX3_mostOf 28 = .ok (.iconst 4, 1) := by decide +kernel
theorem dX3_mostOf_29 : decode cX3_mostOf 29 = .ok (.ireturn, 1) := by decide +kernel
theorem dX3_mostOf_30 : decode cX3_mostOf 30 = .ok (.bipush 6, 2) := by decide +kernel
theorem dX3_mostOf_32 : decode cX3_mostOf 32 = .ok (.ireturn, 1) := by decide +kernel
theorem dX3_mostOf_33 : decode cX3_mostOf 33 = .ok (.iconst 4, 1) := by decide +kernel
theorem dX3_mostOf_34 : decode cX3_mostOf 34 = .ok (.ireturn, 1) := by decide +kernel
theorem dX3_fail_0 : decode cX3_fail 0 = .ok (.aload_n 0, 1) := by decide +kernel
theorem dX3_fail_1 : decode cX3_fail 1 = .ok (.iload_n 1, 1) := by decide +kernel
theorem dX3_fail_2 : decode cX3_fail 2 = .ok (.putfield 9, 3) := by decide +kernel
theorem dX3_fail_5 : decode cX3_fail 5 = .ok (.aload_n 0, 1) := by decide +kernel
theorem dX3_fail_6 : decode cX3_fail 6 = .ok (.aload_n 0, 1) := by decide +kernel
theorem dX3_fail_7 : decode cX3_fail 7 = .ok (.getfield 23, 3) := by decide +kernel
theorem dX3_fail_10 : decode cX3_fail 10 = .ok (.getfield 132, 3) := by decide +kernel
theorem dX3_fail_13 : decode cX3_fail 13 = .ok (.putfield 15, 3) := by decide +kernel
theorem dX3_fail_16 : decode cX3_fail 16 = .ok (.iconst 0, 1) := by decide +kernel
theorem dX3_fail_17 : decode cX3_fail 17 = .ok (.ireturn, 1) := by decide +kernel
set_option maxRecDepth 20000 in
theorem ggX3_refuse_X3_fail : GoodIn wsX3_refuse wsX3_fail := goodIn_r _ [7, 8, 1, 9, 10, 11, 12, 13, 14, 15, 16, 17, 18, 19, 20, 21, 22] (by decide +kernel) (by decide +kernel)
set_option maxRecDepth 20000 in
theorem gX3_refuse_X3_fail : GoodIn wsX3_refuse (wsV RX3 58 RX3 yX3_fail wsX3_fail) := goodIn_app (goodIn_of _ (by decide +kernel)) ggX3_refuse_X3_fail
theorem dX3_refuse_0 : decode cX3_refuse 0 = .ok (.aload_n 0, 1) := by decide +kernel
theorem dX3_refuse_1 : decode cX3_refuse 1 = .ok (.aload_n 0, 1) := by decide +kernel
theorem dX3_refuse_2 : decode cX3_refuse 2 = .ok (.getfield 23, 3) := by decide +kernel
theorem dX3_refuse_5 : decode cX3_refuse 5 = .ok (.getfield 45, 3) := by decide +kernel
theorem dX3_refuse_8 : decode cX3_refuse 8 = .ok (.bipush 22, 2) := by decide +kernel
theorem dX3_refuse_10 : decode cX3_refuse 10 = .ok (.if_icmp .ne 7, 3) := by decide +kernel
theorem dX3_refuse_13 : decode cX3_refuse 13 = .ok (.iconst 1, 1) := by decide +kernel
theorem dX3_refuse_14 : decode cX3_refuse 14 = .ok (.goto 4, 3) := by decide +kernel
theorem dX3_refuse_17 : decode cX3_refuse 17 = .ok (.iconst 2, 1) := by decide +kernel
theorem dX3_refuse_18 : decode cX3_refuse 18 = .ok (.invokevirtual 58, 3) := by decide +kernel
theorem dX3_refuse_21 : decode cX3_refuse 21 = .ok (.ireturn, 1) := by decide +kernel
set_option maxRecDepth 20000 in
theorem ggX3_pass_X3_refuse : GoodIn wsX3_pass wsX3_refuse := goodIn_r _ [7, 1, 2, 8, 9, 10, 6, 11, 12, 13, 14, 96, 97, 98, 99, 100, 101, 102, 103, 104, 105, 106, 107] (by decide +kernel) (by decide +kernel)
set_option maxRecDepth 20000 in
theorem gX3_pass_X3_refuse : GoodIn wsX3_pass (wsV RX3 55 RX3 yX3_refuse wsX3_refuse) := goodIn_app (goodIn_of _ (by decide +kernel)) ggX3_pass_X3_refuse
set_option maxRecDepth 20000 in
theorem ggX3_pass_X5_next : GoodIn wsX3_pass wsX5_next := goodIn_r _ [19, 20, 21, 22, 23, 24, 25, 26, 27, 28, 29, 30, 31, 32, 33, 18, 34, 35, 36, 37, 38, 39, 40, 41, 42, 43, 44, 45, 46, 47, 48, 49, 50, 51, 52, 53, 54, 55, 56, 57, 58, 59, 60, 61, 62, 63, 64, 65, 66, 67, 68, 69, 70, 71, 72, 73, 74, 75, 76, 77, 78, 79, 80, 81, 82, 83, 84, 85, 86, 87, 88, 89, 90, 91, 92, 93, 94, 95, 102, 103, 104, 105, 106, 107, 108, 109] (by decide +kernel) (by decide +kernel)
set_option maxRecDepth 20000 in
theorem gX3_pass_X5_next : GoodIn wsX3_pass (wsV RX3 42 RX5 yX5_next wsX5_next) := goodIn_app (goodIn_of _ (by decide +kernel)) ggX3_pass_X5_next
theorem dX3_pass_0 : decode cX3_pass 0 = .ok (.aload_n 0, 1) := by decide +kernel
theorem dX3_pass_1 : decode cX3_pass 1 = .ok (.getfield 23, 3) := by decide +kernel
theorem dX3_pass_4 : decode cX3_pass 4 = .ok (.getfield 45, 3) := by decide +kernel
theorem dX3_pass_7 : decode cX3_pass 7 = .ok (.iload_n 1, 1) := by decide +kernel
theorem dX3_pass_8 : decode cX3_pass 8 = .ok (.if_icmp .eq 8, 3) := by decide +kernel
theorem dX3_pass_11 : decode cX3_pass 11 = .ok (.aload_n 0, 1) := by decide +kernel
theorem dX3_pass_12 : decode cX3_pass 12 = .ok (.invokevirtual 55, 3) := by decide +kernel
theorem dX3_pass_15 : decode cX3_pass 15 = .ok (.ireturn, 1) := by decide +kernel
theorem dX3_pass_16 : decode cX3_pass 16 = .ok (.aload_n 0, 1) := by decide +kernel
theorem dX3_pass_17 : decode cX3_pass 17 = .ok (.getfield 23, 3) := by decide +kernel
theorem dX3_pass_20 : decode cX3_pass 20 = .ok (.invokevirtual 42, 3) := by decide +kernel
theorem dX3_pass_23 : decode cX3_pass 23 = .ok (.iconst 1, 1) := by decide +kernel
theorem dX3_pass_24 : decode cX3_pass 24 = .ok (.ireturn, 1) := by decide +kernel
set_option maxRecDepth 20000 in
theorem ggX3_readNumber_X3_fail : GoodIn wsX3_readNumber wsX3_fail := goodIn_r _ [13, 14, 1, 15, 16, 98, 99, 100, 101, 102, 103, 104, 105, 106, 107, 108, 109] (by decide +kernel) (by decide +kernel)
set_option maxRecDepth 20000 in
theorem gX3_readNumber_X3_fail : GoodIn wsX3_readNumber (wsV RX3 58 RX3 yX3_fail wsX3_fail) := goodIn_app (goodIn_of _ (by decide +kernel)) ggX3_readNumber_X3_fail
set_option maxRecDepth 20000 in
theorem ggX3_readNumber_X3_refuse : GoodIn wsX3_readNumber wsX3_refuse := goodIn_r _ [9, 1, 2, 10, 11, 12, 8, 13, 14, 15, 16, 98, 99, 100, 101, 102, 103, 104, 105, 106, 107, 108, 109] (by decide +kernel) (by decide +kernel)
set_option maxRecDepth 20000 in
theorem gX3_readNumber_X3_refuse : GoodIn wsX3_readNumber (wsV RX3 55 RX3 yX3_refuse wsX3_refuse) := goodIn_app (goodIn_of _ (by decide +kernel)) ggX3_readNumber_X3_refuse
set_option maxRecDepth 20000 in
theorem ggX3_readNumber_X5_next : GoodIn wsX3_readNumber wsX5_next := goodIn_r _ [21, 22, 23, 24, 25, 26, 27, 28, 29, 30, 31, 32, 33, 34, 35, 20, 36, 37, 38, 39, 40, 41, 42, 43, 44, 45, 46, 47, 48, 49, 50, 51, 52, 53, 54, 55, 56, 57, 58, 59, 60, 61, 62, 63, 64, 65, 66, 67, 68, 69, 70, 71, 72, 73, 74, 75, 76, 77, 78, 79, 80, 81, 82, 83, 84, 85, 86, 87, 88, 89, 90, 91, 92, 93, 94, 95, 96, 97, 104, 105, 106, 107, 108, 109, 110, 111] (by decide +kernel) (by decide +kernel)
set_option maxRecDepth 20000 in
theorem gX3_readNumber_X5_next : GoodIn wsX3_readNumber (wsV RX3 42 RX5 yX5_next wsX5_next) := goodIn_app (goodIn_of _ (by decide +kernel)) ggX3_readNumber_X5_next
theorem dX3_readNumber_0 : decode cX3_readNumber 0 = .ok (.aload_n 0, 1) := by decide +kernel
theorem dX3_readNumber_1 : decode cX3_readNumber 1 = .ok (.getfield 23, 3) := by decide +kernel
theorem dX3_readNumber_4 : decode cX3_readNumber 4 = .ok (.getfield 45, 3) := by decide +kernel
theorem dX3_readNumber_7 : decode cX3_readNumber 7 = .ok (.bipush 19, 2) := by decide +kernel
theorem dX3_readNumber_9 : decode cX3_readNumber 9 = .ok (.if_icmp .eq 8, 3) := by decide +kernel
theorem dX3_readNumber_12 : decode cX3_readNumber 12 = .ok (.aload_n 0, 1) := by decide +kernel
theorem dX3_readNumber_13 : decode cX3_readNumber 13 = .ok (.invokevirtual 55, 3) := by decide +kernel
theorem dX3_readNumber_16 : decode cX3_readNumber 16 = .ok (.ireturn, 1) := by decide +kernel
theorem dX3_readNumber_17 : decode cX3_readNumber 17 = .ok (.aload_n 0, 1) := by decide +kernel
theorem dX3_readNumber_18 : decode cX3_readNumber 18 = .ok (.getfield 23, 3) := by decide +kernel
theorem dX3_readNumber_21 : decode cX3_readNumber 21 = .ok (.getfield 129, 3) := by decide +kernel
theorem dX3_readNumber_24 : decode cX3_readNumber 24 = .ok (.iload_n 1, 1) := by decide +kernel
theorem dX3_readNumber_25 : decode cX3_readNumber 25 = .ok (.if_icmp .lt 14, 3) := by decide +kernel
theorem dX3_readNumber_28 : decode cX3_readNumber 28 = .ok (.aload_n 0, 1) := by decide +kernel
theorem dX3_readNumber_29 : decode cX3_readNumber 29 = .ok (.getfield 23, 3) := by decide +kernel
theorem dX3_readNumber_32 : decode cX3_readNumber 32 = .ok (.getfield 129, 3) := by decide +kernel
theorem dX3_readNumber_35 : decode cX3_readNumber 35 = .ok (.iload_n 2, 1) := by decide +kernel
theorem dX3_readNumber_36 : decode cX3_readNumber 36 = .ok (.if_icmp .le 9, 3) := by decide +kernel
theorem dX3_readNumber_39 : decode cX3_readNumber 39 = .ok (.aload_n 0, 1) := by decide +kernel
theorem dX3_readNumber_40 : decode cX3_readNumber 40 = .ok (.iconst 4, 1) := by decide +kernel
theorem dX3_readNumber_41 : decode cX3_readNumber 41 = .ok (.invokevirtual 58, 3) := by decide +kernel
theorem dX3_readNumber_44 : decode cX3_readNumber 44 = .ok (.ireturn, 1) := by decide +kernel
theorem dX3_readNumber_45 : decode cX3_readNumber 45 = .ok (.aload_n 0, 1) := by decide +kernel
theorem dX3_readNumber_46 : decode cX3_readNumber 46 = .ok (.aload_n 0, 1) := by decide +kernel
theorem dX3_readNumber_47 : decode cX3_readNumber 47 = .ok (.getfield 23, 3) := by decide +kernel
theorem dX3_readNumber_50 : decode cX3_readNumber 50 = .ok (.getfield 129, 3) := by decide +kernel
theorem dX3_readNumber_53 : decode cX3_readNumber 53 = .ok (.putfield 70, 3) := by decide +kernel
theorem dX3_readNumber_56 : decode cX3_readNumber 56 = .ok (.aload_n 0, 1) := by decide +kernel
theorem dX3_readNumber_57 : decode cX3_readNumber 57 = .ok (.getfield 23, 3) := by decide +kernel
theorem dX3_readNumber_60 : decode cX3_readNumber 60 = .ok (.invokevirtual 42, 3) := by decide +kernel
theorem dX3_readNumber_63 : decode cX3_readNumber 63 = .ok (.iconst 1, 1) := by decide +kernel
theorem dX3_readNumber_64 : decode cX3_readNumber 64 = .ok (.ireturn, 1) := by decide +kernel
set_option maxHeartbeats 4000000 in
set_option maxRecDepth 100000 in
theorem s_X3_mostOf_0 (l : Launch) (D : va_G) (ca : Nat → ClassId) (sz : Nat) : Met l yX3_mostOf wsX3_mostOf ({ frames := 0, cells := 0, slots := 0, locals := 0 }) (PC [.int 0] sz D ca []) (QI (fun (r : Int32) (u : Unit) => r = 4) (fun (_ : Unit) => []) [] sz D) 0 0 (va_A [] sz) := by
  refine Met.ofW (cc := cX3_mostOf) (maxL := 1) (ret := (some .int)) (by decide +kernel) rfl ?_
  intro p e s m args below meth c s₁ B hml hv
  obtain ⟨rfl, hsz, hP, hC, hD0⟩ := hv
  have hx := B.exec
  have hb := B.bytes
  have hr := B.returns
  have hts := atoms_spec (ws := wsX3_mostOf) B.pre
  have hown : s.vm.findClass RX3 = some m.cls := findClass_of_methodNamed B.named
  have hlocks := B.notSynchronized
  subst hsz
  have hD := hD0.self (sz := s.heap.size)
  dsimp only [QV, QI, QL, BQ]
  generalize hAe : va_A [] s.heap.size = A at hD ⊢
  have hA : ∀ q : Nat, s.heap.size ≤ q → A q := fun q h => by rw [← hAe]; exact Or.inr h
  have hDA : ∀ {w : va_W}, va_D A w → va_D (va_A [] s.heap.size) w := fun h => by rw [hAe]; exact h
  have hS : va_S A s.heap s.heap [] := va_S.rf
  have hP : va_P D vwCl [] s.heap := hP
  have hl := lv_entry ([.int 0]) (n := 1) (Nat.le_of_ble_eq_true rfl)
  rw [lg_entry_eq]
  generalize (lg_sl ([.int 0]) ++ List.replicate (1 - (lg_sl ([.int 0])).length) Slot.unset).toArray = ls at hl ⊢
  have hl : lv_has ls 1 [(0, .int 0)] := hl
  refine lv_iload_n hx hb dX3_mostOf_0 rfl (lv_at hl 0 rfl) ?_
  refine lv_lookup (off := 27) (tgt := 28) hx hb dX3_mostOf_1 (by decide +kernel) (by decide +kernel) (by decide +kernel) ?_
  refine lv_iconst (v := 4) hx hb dX3_mostOf_28 (by decide +kernel) ?_
  exact W.iret (v := 4) hx hb hr (fun t ht hW => ⟨⟨4, (), rfl, rfl, by rw [ht]; exact hP.sub [] rfl, hDA (hD.sub [] (by decide +kernel) rfl)⟩, hS.F ht⟩) hS.2.2 dX3_mostOf_29
set_option maxHeartbeats 4000000 in
set_option maxRecDepth 100000 in
theorem s_X3_mostOf_1 (l : Launch) (D : va_G) (ca : Nat → ClassId) (sz : Nat) : Met l yX3_mostOf wsX3_mostOf ({ frames := 0, cells := 0, slots := 0, locals := 0 }) (PC [.int 1] sz D ca []) (QI (fun (r : Int32) (u : Unit) => r = 6) (fun (_ : Unit) => []) [] sz D) 0 0 (va_A [] sz) := by
  refine Met.ofW (cc := cX3_mostOf) (maxL := 1) (ret := (some .int)) (by decide +kernel) rfl ?_
  intro p e s m args below meth c s₁ B hml hv
  obtain ⟨rfl, hsz, hP, hC, hD0⟩ := hv
  have hx := B.exec
  have hb := B.bytes
  have hr := B.returns
  have hts := atoms_spec (ws := wsX3_mostOf) B.pre
  have hown : s.vm.findClass RX3 = some m.cls := findClass_of_methodNamed B.named
  have hlocks := B.notSynchronized
  subst hsz
  have hD := hD0.self (sz := s.heap.size)
  dsimp only [QV, QI, QL, BQ]
  generalize hAe : va_A [] s.heap.size = A at hD ⊢
  have hA : ∀ q : Nat, s.heap.size ≤ q → A q := fun q h => by rw [← hAe]; exact Or.inr h
  have hDA : ∀ {w : va_W}, va_D A w → va_D (va_A [] s.heap.size) w := fun h => by rw [hAe]; exact h
  have hS : va_S A s.heap s.heap [] := va_S.rf
  have hP : va_P D vwCl [] s.heap := hP
  have hl := lv_entry ([.int 1]) (n := 1) (Nat.le_of_ble_eq_true rfl)
  rw [lg_entry_eq]
  generalize (lg_sl ([.int 1]) ++ List.replicate (1 - (lg_sl ([.int 1])).length) Slot.unset).toArray = ls at hl ⊢
  have hl : lv_has ls 1 [(0, .int 1)] := hl
  refine lv_iload_n hx hb dX3_mostOf_0 rfl (lv_at hl 0 rfl) ?_
  refine lv_lookup (off := 29) (tgt := 30) hx hb dX3_mostOf_1 (by decide +kernel) (by decide +kernel) (by decide +kernel) ?_
  refine lv_bipush (v := 6) hx hb dX3_mostOf_30 (by decide +kernel) ?_
  exact W.iret (v := 6) hx hb hr (fun t ht hW => ⟨⟨6, (), rfl, rfl, by rw [ht]; exact hP.sub [] rfl, hDA (hD.sub [] (by decide +kernel) rfl)⟩, hS.F ht⟩) hS.2.2 dX3_mostOf_32
set_option maxHeartbeats 4000000 in
set_option maxRecDepth 100000 in
theorem s_X3_mostOf_2 (l : Launch) (D : va_G) (ca : Nat → ClassId) (sz : Nat) : Met l yX3_mostOf wsX3_mostOf ({ frames := 0, cells := 0, slots := 0, locals := 0 }) (PC [.int 2] sz D ca []) (QI (fun (r : Int32) (u : Unit) => r = 4) (fun (_ : Unit) => []) [] sz D) 0 0 (va_A [] sz) := by
  refine Met.ofW (cc := cX3_mostOf) (maxL := 1) (ret := (some .int)) (by decide +kernel) rfl ?_
  intro p e s m args below meth c s₁ B hml hv
  obtain ⟨rfl, hsz, hP, hC, hD0⟩ := hv
  have hx := B.exec
  have hb := B.bytes
  have hr := B.returns
  have hts := atoms_spec (ws := wsX3_mostOf) B.pre
  have hown : s.vm.findClass RX3 = some m.cls := findClass_of_methodNamed B.named
  have hlocks := B.notSynchronized
  subst hsz
  have hD := hD0.self (sz := s.heap.size)
  dsimp only [QV, QI, QL, BQ]
  generalize hAe : va_A [] s.heap.size = A at hD ⊢
  have hA : ∀ q : Nat, s.heap.size ≤ q → A q := fun q h => by rw [← hAe]; exact Or.inr h
  have hDA : ∀ {w : va_W}, va_D A w → va_D (va_A [] s.heap.size) w := fun h => by rw [hAe]; exact h
  have hS : va_S A s.heap s.heap [] := va_S.rf
  have hP : va_P D vwCl [] s.heap := hP
  have hl := lv_entry ([.int 2]) (n := 1) (Nat.le_of_ble_eq_true rfl)
  rw [lg_entry_eq]
  generalize (lg_sl ([.int 2]) ++ List.replicate (1 - (lg_sl ([.int 2])).length) Slot.unset).toArray = ls at hl ⊢
  have hl : lv_has ls 1 [(0, .int 2)] := hl
  refine lv_iload_n hx hb dX3_mostOf_0 rfl (lv_at hl 0 rfl) ?_
  refine lv_lookup (off := 32) (tgt := 33) hx hb dX3_mostOf_1 (by decide +kernel) (by decide +kernel) (by decide +kernel) ?_
  refine lv_iconst (v := 4) hx hb dX3_mostOf_33 (by decide +kernel) ?_
  exact W.iret (v := 4) hx hb hr (fun t ht hW => ⟨⟨4, (), rfl, rfl, by rw [ht]; exact hP.sub [] rfl, hDA (hD.sub [] (by decide +kernel) rfl)⟩, hS.F ht⟩) hS.2.2 dX3_mostOf_34
theorem iw_X3_fail_3 : ∀ w ∈ u_ws RX3 TX3 6, w ∈ wsX3_fail := by decide +kernel
theorem iw_X3_fail_5 : ∀ w ∈ u_ws RX5 TX5 6, w ∈ wsX3_fail := by decide +kernel
set_option maxHeartbeats 4000000 in
set_option maxRecDepth 100000 in
theorem s_X3_fail (l : Launch) (D : va_G) (ca : Nat → ClassId) (sz : Nat) (h0 : Nat) (sc : Nat) (pl : Nat) (tp : Nat) (ka : Nat) (xt : Int32) (xm : Int32) (xf : Int32) (xg : Int32) (xs : Int32) (xc : Int32) (xv : Int32) (xl : Int64) (x1 : Int32) : Met l yX3_fail wsX3_fail ({ frames := 0, cells := 0, slots := 0, locals := 0 }) (PC [.ref h0, .int x1] sz D ca [(h0, .inr (3, [.ref sc, .ref pl, .int xt, .int xm, .int xf, .int xg])), (sc, .inr (5, [.ref tp, .int (nI ka), .int xs, .int xc, .long xl, .int xv]))]) (QI (fun (r : Int32) (u : Unit) => r = 0) (fun (_ : Unit) => [(h0, .inr (3, [.ref sc, .ref pl, .int xt, .int xm, .int x1, .int xs])), (sc, .inr (5, [.ref tp, .int (nI ka), .int xs, .int xc, .long xl, .int xv]))]) [(h0, .inr (3, [.ref sc, .ref pl, .int xt, .int xm, .int xf, .int xg])), (sc, .inr (5, [.ref tp, .int (nI ka), .int xs, .int xc, .long xl, .int xv]))] sz D) 0 0 (va_A [(h0, .inr (3, [.ref sc, .ref pl, .int xt, .int xm, .int xf, .int xg])), (sc, .inr (5, [.ref tp, .int (nI ka), .int xs, .int xc, .long xl, .int xv]))] sz) := by
  refine Met.ofW (cc := cX3_fail) (maxL := 2) (ret := (some .boolean)) (by decide +kernel) rfl ?_
  intro p e s m args below meth c s₁ B hml hv
  obtain ⟨rfl, hsz, hP, hC, hD0⟩ := hv
  have hx := B.exec
  have hb := B.bytes
  have hr := B.returns
  have hts := atoms_spec (ws := wsX3_fail) B.pre
  have hown : s.vm.findClass RX3 = some m.cls := findClass_of_methodNamed B.named
  have hlocks := B.notSynchronized
  subst hsz
  have hD := hD0.self (sz := s.heap.size)
  dsimp only [QV, QI, QL, BQ]
  generalize hAe : va_A [(h0, .inr (3, [.ref sc, .ref pl, .int xt, .int xm, .int xf, .int xg])), (sc, .inr (5, [.ref tp, .int (nI ka), .int xs, .int xc, .long xl, .int xv]))] s.heap.size = A at hD ⊢
  have hA : ∀ q : Nat, s.heap.size ≤ q → A q := fun q h => by rw [← hAe]; exact Or.inr h
  have hDA : ∀ {w : va_W}, va_D A w → va_D (va_A [(h0, .inr (3, [.ref sc, .ref pl, .int xt, .int xm, .int xf, .int xg])), (sc, .inr (5, [.ref tp, .int (nI ka), .int xs, .int xc, .long xl, .int xv]))] s.heap.size) w := fun h => by rw [hAe]; exact h
  have hS : va_S A s.heap s.heap [] := va_S.rf
  have hP : va_P D vwCl [(h0, .inr (3, [.ref sc, .ref pl, .int xt, .int xm, .int xf, .int xg])), (sc, .inr (5, [.ref tp, .int (nI ka), .int xs, .int xc, .long xl, .int xv]))] s.heap := hP
  have hl := lv_entry ([.ref h0, .int x1]) (n := 2) (Nat.le_of_ble_eq_true rfl)
  rw [lg_entry_eq]
  generalize (lg_sl ([.ref h0, .int x1]) ++ List.replicate (2 - (lg_sl ([.ref h0, .int x1])).length) Slot.unset).toArray = ls at hl ⊢
  have hl : lv_has ls 2 [(0, .ref h0), (1, .int x1)] := hl
  refine lv_aload_n hx hb dX3_fail_0 rfl (lv_at hl 0 rfl) ?_
  refine lv_iload_n hx hb dX3_fail_1 rfl (lv_at hl 1 rfl) ?_
  refine va_put (D := D) (ci := 3) (v := .int x1) (ty := .int) (C := RX3) (T := TX3) (N := 6) hx hb hts iw_X3_fail_3 tyX3 tyX3_ok nmX3 hown hC.1 hP hD hS 0 rfl rfl 4 (by decide +kernel) (hts (.fieldLink RX3 9 "FairWheel$Reader" "found" "I") (by decide +kernel)) (fun _ h9 => h9) rfl (by decide +kernel) rfl rfl (Nat.le_of_ble_eq_true rfl) dX3_fail_2 (fun H locs hP hD hS => ?_)
  have hP : va_P D vwCl [(h0, .inr (3, [.ref sc, .ref pl, .int xt, .int xm, .int x1, .int xg])), (sc, .inr (5, [.ref tp, .int (nI ka), .int xs, .int xc, .long xl, .int xv]))] H := hP
  have hD : va_D A [(h0, .inr (3, [.ref sc, .ref pl, .int xt, .int xm, .int x1, .int xg])), (sc, .inr (5, [.ref tp, .int (nI ka), .int xs, .int xc, .long xl, .int xv]))] := hD
  refine lv_aload_n hx hb dX3_fail_5 rfl (lv_at hl 0 rfl) ?_
  refine lv_aload_n hx hb dX3_fail_6 rfl (lv_at hl 0 rfl) ?_
  refine va_get (D := D) (ci := 3) (v := .ref sc) (C := RX3) (T := TX3) (N := 6) hx hb hts iw_X3_fail_3 hown hC.1 hP 0 rfl rfl 0 (by decide +kernel) (hts (.fieldLink RX3 23 "FairWheel$Reader" "scanner" "LFairWheel$Scanner;") (by decide +kernel)) (fun _ h9 => h9) rfl dX3_fail_7 ?_
  refine va_get (D := D) (ci := 5) (v := .int xs) (C := RX5) (T := TX5) (N := 6) hx hb hts iw_X3_fail_5 hown hC.1 hP 1 rfl rfl 2 (by decide +kernel) (hts (.fieldLink RX3 132 "FairWheel$Scanner" "start" "I") (by decide +kernel)) (fun _ h9 => h9) rfl dX3_fail_10 ?_
  refine va_put (D := D) (ci := 3) (v := .int xs) (ty := .int) (C := RX3) (T := TX3) (N := 6) hx hb hts iw_X3_fail_3 tyX3 tyX3_ok nmX3 hown hC.1 hP hD hS 0 rfl rfl 5 (by decide +kernel) (hts (.fieldLink RX3 15 "FairWheel$Reader" "foundAt" "I") (by decide +kernel)) (fun _ h9 => h9) rfl (by decide +kernel) rfl rfl (Nat.le_of_ble_eq_true rfl) dX3_fail_13 (fun H locs hP hD hS => ?_)
  have hP : va_P D vwCl [(h0, .inr (3, [.ref sc, .ref pl, .int xt, .int xm, .int x1, .int xs])), (sc, .inr (5, [.ref tp, .int (nI ka), .int xs, .int xc, .long xl, .int xv]))] H := hP
  have hD : va_D A [(h0, .inr (3, [.ref sc, .ref pl, .int xt, .int xm, .int x1, .int xs])), (sc, .inr (5, [.ref tp, .int (nI ka), .int xs, .int xc, .long xl, .int xv]))] := hD
  refine lv_iconst (v := 0) hx hb dX3_fail_16 (by decide +kernel) ?_
  exact W.zret (v := 0) hx hb hr (rfl) (fun t ht hW => ⟨⟨0, (), rfl, rfl, by rw [ht]; exact hP.sub [0, 1] rfl, hDA (hD.sub [0, 1] (by decide +kernel) rfl)⟩, hS.F ht⟩) hS.2.2 dX3_fail_17
theorem iw_X3_refuse_3 : ∀ w ∈ u_ws RX3 TX3 6, w ∈ wsX3_refuse := by decide +kernel
theorem iw_X3_refuse_5 : ∀ w ∈ u_ws RX5 TX5 6, w ∈ wsX3_refuse := by decide +kernel
set_option maxHeartbeats 4000000 in
set_option maxRecDepth 100000 in
theorem s_X3_refuse (l : Launch) (D : va_G) (ca : Nat → ClassId) (sz : Nat) (h0 : Nat) (sc : Nat) (pl : Nat) (tp : Nat) (ka : Nat) (xt : Int32) (xm : Int32) (xf : Int32) (xg : Int32) (xs : Int32) (xc : Int32) (xv : Int32) (xl : Int64) : Met l yX3_refuse wsX3_refuse ({ frames := 1, cells := 0, slots := 0, locals := 21 }) (PC [.ref h0] sz D ca [(h0, .inr (3, [.ref sc, .ref pl, .int xt, .int xm, .int xf, .int xg])), (sc, .inr (5, [.ref tp, .int (nI ka), .int xs, .int xc, .long xl, .int xv]))]) (QI (fun (r : Int32) (u : Int32 × Int32) => r = 0) (fun (u : Int32 × Int32) => [(h0, .inr (3, [.ref sc, .ref pl, .int xt, .int xm, .int u.1, .int u.2])), (sc, .inr (5, [.ref tp, .int (nI ka), .int xs, .int xc, .long xl, .int xv]))]) [(h0, .inr (3, [.ref sc, .ref pl, .int xt, .int xm, .int xf, .int xg])), (sc, .inr (5, [.ref tp, .int (nI ka), .int xs, .int xc, .long xl, .int xv]))] sz D) 0 0 (va_A [(h0, .inr (3, [.ref sc, .ref pl, .int xt, .int xm, .int xf, .int xg])), (sc, .inr (5, [.ref tp, .int (nI ka), .int xs, .int xc, .long xl, .int xv]))] sz) := by
  refine Met.ofW (cc := cX3_refuse) (maxL := 1) (ret := (some .boolean)) (by decide +kernel) rfl ?_
  intro p e s m args below meth c s₁ B hml hv
  obtain ⟨rfl, hsz, hP, hC, hD0⟩ := hv
  have hx := B.exec
  have hb := B.bytes
  have hr := B.returns
  have hts := atoms_spec (ws := wsX3_refuse) B.pre
  have hown : s.vm.findClass RX3 = some m.cls := findClass_of_methodNamed B.named
  have hlocks := B.notSynchronized
  subst hsz
  have hD := hD0.self (sz := s.heap.size)
  dsimp only [QV, QI, QL, BQ]
  generalize hAe : va_A [(h0, .inr (3, [.ref sc, .ref pl, .int xt, .int xm, .int xf, .int xg])), (sc, .inr (5, [.ref tp, .int (nI ka), .int xs, .int xc, .long xl, .int xv]))] s.heap.size = A at hD ⊢
  have hA : ∀ q : Nat, s.heap.size ≤ q → A q := fun q h => by rw [← hAe]; exact Or.inr h
  have hDA : ∀ {w : va_W}, va_D A w → va_D (va_A [(h0, .inr (3, [.ref sc, .ref pl, .int xt, .int xm, .int xf, .int xg])), (sc, .inr (5, [.ref tp, .int (nI ka), .int xs, .int xc, .long xl, .int xv]))] s.heap.size) w := fun h => by rw [hAe]; exact h
  have hS : va_S A s.heap s.heap [] := va_S.rf
  have hP : va_P D vwCl [(h0, .inr (3, [.ref sc, .ref pl, .int xt, .int xm, .int xf, .int xg])), (sc, .inr (5, [.ref tp, .int (nI ka), .int xs, .int xc, .long xl, .int xv]))] s.heap := hP
  have hl := lv_entry ([.ref h0]) (n := 1) (Nat.le_of_ble_eq_true rfl)
  rw [lg_entry_eq]
  generalize (lg_sl ([.ref h0]) ++ List.replicate (1 - (lg_sl ([.ref h0])).length) Slot.unset).toArray = ls at hl ⊢
  have hl : lv_has ls 1 [(0, .ref h0)] := hl
  refine lv_aload_n hx hb dX3_refuse_0 rfl (lv_at hl 0 rfl) ?_
  refine lv_aload_n hx hb dX3_refuse_1 rfl (lv_at hl 0 rfl) ?_
  refine va_get (D := D) (ci := 3) (v := .ref sc) (C := RX3) (T := TX3) (N := 6) hx hb hts iw_X3_refuse_3 hown hC.1 hP 0 rfl rfl 0 (by decide +kernel) (hts (.fieldLink RX3 23 "FairWheel$Reader" "scanner" "LFairWheel$Scanner;") (by decide +kernel)) (fun _ h9 => h9) rfl dX3_refuse_2 ?_
  refine va_get (D := D) (ci := 5) (v := .int xc) (C := RX5) (T := TX5) (N := 6) hx hb hts iw_X3_refuse_5 hown hC.1 hP 1 rfl rfl 3 (by decide +kernel) (hts (.fieldLink RX3 45 "FairWheel$Scanner" "code" "I") (by decide +kernel)) (fun _ h9 => h9) rfl dX3_refuse_5 ?_
  refine lv_bipush (v := 22) hx hb dX3_refuse_8 (by decide +kernel) ?_
  refine lv_icmp_ne (tgt := 17) hx hb dX3_refuse_10 (by decide +kernel) (fun c_1 => ?_) (fun c_1 => ?_)
  · refine lv_iconst (v := 2) hx hb dX3_refuse_17 (by decide +kernel) ?_
    refine kc_i (wr := []) (va_runV (As := [.int 2]) (rest := []) ⟨hx, hb, hml, hown, hts⟩ (s_X3_fail l D ca s.heap.size h0 sc pl tp ka xt xm xf xg xs xc xv xl 2) (cwV 1 hts gX3_refuse_X3_fail rfl rfl rfl (by decide +kernel) ⟨(Nat.le_of_ble_eq_true rfl), (Nat.le_of_ble_eq_true rfl)⟩) (PC.preV (ci := 3) hC hP hD [0, 1] rfl (by decide +kernel) rfl rfl) rfl rfl hl.1 rfl (lv_room (Nat.le_of_ble_eq_true rfl)) dX3_refuse_18 ⟨(Nat.le_of_ble_eq_true rfl), (Nat.le_of_ble_eq_true rfl)⟩) hP hD hS hA [0, 1] [] rfl rfl (by decide +kernel) (by decide +kernel) (fun r_2 u_4 H locs hw_3 hP hD hS => ?_)
    subst hw_3
    have hP : va_P D vwCl [(h0, .inr (3, [.ref sc, .ref pl, .int xt, .int xm, .int 2, .int xs])), (sc, .inr (5, [.ref tp, .int (nI ka), .int xs, .int xc, .long xl, .int xv]))] H := hP
    have hD : va_D A [(h0, .inr (3, [.ref sc, .ref pl, .int xt, .int xm, .int 2, .int xs])), (sc, .inr (5, [.ref tp, .int (nI ka), .int xs, .int xc, .long xl, .int xv]))] := hD
    exact W.zret (v := 0) hx hb hr (rfl) (fun t ht hW => ⟨⟨0, (2, xs), rfl, rfl, by rw [ht]; exact hP.sub [0, 1] rfl, hDA (hD.sub [0, 1] (by decide +kernel) rfl)⟩, hS.F ht⟩) hS.2.2 dX3_refuse_21
  · refine lv_iconst (v := 1) hx hb dX3_refuse_13 (by decide +kernel) ?_
    refine lv_goto (tgt := 18) hx hb dX3_refuse_14 (by decide +kernel) ?_
    refine kc_i (wr := []) (va_runV (As := [.int 1]) (rest := []) ⟨hx, hb, hml, hown, hts⟩ (s_X3_fail l D ca s.heap.size h0 sc pl tp ka xt xm xf xg xs xc xv xl 1) (cwV 1 hts gX3_refuse_X3_fail rfl rfl rfl (by decide +kernel) ⟨(Nat.le_of_ble_eq_true rfl), (Nat.le_of_ble_eq_true rfl)⟩) (PC.preV (ci := 3) hC hP hD [0, 1] rfl (by decide +kernel) rfl rfl) rfl rfl hl.1 rfl (lv_room (Nat.le_of_ble_eq_true rfl)) dX3_refuse_18 ⟨(Nat.le_of_ble_eq_true rfl), (Nat.le_of_ble_eq_true rfl)⟩) hP hD hS hA [0, 1] [] rfl rfl (by decide +kernel) (by decide +kernel) (fun r_5 u_7 H locs hw_6 hP hD hS => ?_)
    subst hw_6
    have hP : va_P D vwCl [(h0, .inr (3, [.ref sc, .ref pl, .int xt, .int xm, .int 1, .int xs])), (sc, .inr (5, [.ref tp, .int (nI ka), .int xs, .int xc, .long xl, .int xv]))] H := hP
    have hD : va_D A [(h0, .inr (3, [.ref sc, .ref pl, .int xt, .int xm, .int 1, .int xs])), (sc, .inr (5, [.ref tp, .int (nI ka), .int xs, .int xc, .long xl, .int xv]))] := hD
    exact W.zret (v := 0) hx hb hr (rfl) (fun t ht hW => ⟨⟨0, (1, xs), rfl, rfl, by rw [ht]; exact hP.sub [0, 1] rfl, hDA (hD.sub [0, 1] (by decide +kernel) rfl)⟩, hS.F ht⟩) hS.2.2 dX3_refuse_21
theorem iw_X3_pass_3 : ∀ w ∈ u_ws RX3 TX3 6, w ∈ wsX3_pass := by decide +kernel
theorem iw_X3_pass_5 : ∀ w ∈ u_ws RX5 TX5 6, w ∈ wsX3_pass := by decide +kernel
set_option maxHeartbeats 4000000 in
set_option maxRecDepth 100000 in
theorem s_X3_pass (l : Launch) (D : va_G) (ca : Nat → ClassId) (sz : Nat) (K : (Nat × Nat × Option Nat) × (Nat → Int32)) (h0 : Nat) (sc : Nat) (pl : Nat) (tp : Nat) (tb : Nat) (ka : Nat) (kt : Nat) (xt : Int32) (xm : Int32) (xf : Int32) (xg : Int32) (xs : Int32) (xc : Int32) (xv : Int32) (xl : Int64) (fb : Nat → Int32) (x1 : Int32) (hn : kt ≤ 1700) (ha : ka ≤ kt) : Met l yX3_pass wsX3_pass ({ frames := 6, cells := 0, slots := 0, locals := 131 }) (PCk K [.ref h0, .int x1] sz D ca [(h0, .inr (3, [.ref sc, .ref pl, .int xt, .int xm, .int xf, .int xg])), (sc, .inr (5, [.ref tp, .int (nI ka), .int xs, .int xc, .long xl, .int xv])), (tp, .inr (7, [.ref tb, .int (nI kt)])), (tb, .inl (ca 0, 1700, .inl fb))]) (QI (fun (r : Int32) (u : Int32 × Int32 × Int32 × Nat × Int32 × Int32 × Int64 × Int32) => (r = 0 ∨ r = 1) ∧ u.2.2.2.1 ≤ kt) (fun (u : Int32 × Int32 × Int32 × Nat × Int32 × Int32 × Int64 × Int32) => [(h0, .inr (3, [.ref sc, .ref pl, .int xt, .int u.1, .int u.2.1, .int u.2.2.1])), (sc, .inr (5, [.ref tp, .int (nI u.2.2.2.1), .int u.2.2.2.2.1, .int u.2.2.2.2.2.1, .long u.2.2.2.2.2.2.1, .int u.2.2.2.2.2.2.2])), (tp, .inr (7, [.ref tb, .int (nI kt)])), (tb, .inl (ca 0, 1700, .inl fb))]) [(h0, .inr (3, [.ref sc, .ref pl, .int xt, .int xm, .int xf, .int xg])), (sc, .inr (5, [.ref tp, .int (nI ka), .int xs, .int xc, .long xl, .int xv])), (tp, .inr (7, [.ref tb, .int (nI kt)])), (tb, .inl (ca 0, 1700, .inl fb))] sz D) 0 0 (va_A [(h0, .inr (3, [.ref sc, .ref pl, .int xt, .int xm, .int xf, .int xg])), (sc, .inr (5, [.ref tp, .int (nI ka), .int xs, .int xc, .long xl, .int xv])), (tp, .inr (7, [.ref tb, .int (nI kt)])), (tb, .inl (ca 0, 1700, .inl fb))] sz) := by
  refine Met.ofW (cc := cX3_pass) (maxL := 2) (ret := (some .boolean)) (by decide +kernel) rfl ?_
  intro p e s m args below meth c s₁ B hml hv
  obtain ⟨rfl, ⟨hsz, hP, hC, hD0⟩, hK⟩ := hv
  have hx := B.exec
  have hb := B.bytes
  have hr := B.returns
  have hts := atoms_spec (ws := wsX3_pass) B.pre
  have hown : s.vm.findClass RX3 = some m.cls := findClass_of_methodNamed B.named
  have hlocks := B.notSynchronized
  subst hsz
  have hD := hD0.self (sz := s.heap.size)
  dsimp only [QV, QI, QL, BQ]
  generalize hAe : va_A [(h0, .inr (3, [.ref sc, .ref pl, .int xt, .int xm, .int xf, .int xg])), (sc, .inr (5, [.ref tp, .int (nI ka), .int xs, .int xc, .long xl, .int xv])), (tp, .inr (7, [.ref tb, .int (nI kt)])), (tb, .inl (ca 0, 1700, .inl fb))] s.heap.size = A at hD hK ⊢
  have hA : ∀ q : Nat, s.heap.size ≤ q → A q := fun q h => by rw [← hAe]; exact Or.inr h
  have hDA : ∀ {w : va_W}, va_D A w → va_D (va_A [(h0, .inr (3, [.ref sc, .ref pl, .int xt, .int xm, .int xf, .int xg])), (sc, .inr (5, [.ref tp, .int (nI ka), .int xs, .int xc, .long xl, .int xv])), (tp, .inr (7, [.ref tb, .int (nI kt)])), (tb, .inl (ca 0, 1700, .inl fb))] s.heap.size) w := fun h => by rw [hAe]; exact h
  have hS : va_S A s.heap s.heap [] := va_S.rf
  have hP : va_P D vwCl [(h0, .inr (3, [.ref sc, .ref pl, .int xt, .int xm, .int xf, .int xg])), (sc, .inr (5, [.ref tp, .int (nI ka), .int xs, .int xc, .long xl, .int xv])), (tp, .inr (7, [.ref tb, .int (nI kt)])), (tb, .inl (ca 0, 1700, .inl fb))] s.heap := hP
  have hl := lv_entry ([.ref h0, .int x1]) (n := 2) (Nat.le_of_ble_eq_true rfl)
  rw [lg_entry_eq]
  generalize (lg_sl ([.ref h0, .int x1]) ++ List.replicate (2 - (lg_sl ([.ref h0, .int x1])).length) Slot.unset).toArray = ls at hl ⊢
  have hl : lv_has ls 2 [(0, .ref h0), (1, .int x1)] := hl
  refine lv_aload_n hx hb dX3_pass_0 rfl (lv_at hl 0 rfl) ?_
  refine va_get (D := D) (ci := 3) (v := .ref sc) (C := RX3) (T := TX3) (N := 6) hx hb hts iw_X3_pass_3 hown hC.1 hP 0 rfl rfl 0 (by decide +kernel) (hts (.fieldLink RX3 23 "FairWheel$Reader" "scanner" "LFairWheel$Scanner;") (by decide +kernel)) (fun _ h9 => h9) rfl dX3_pass_1 ?_
  refine va_get (D := D) (ci := 5) (v := .int xc) (C := RX5) (T := TX5) (N := 6) hx hb hts iw_X3_pass_5 hown hC.1 hP 1 rfl rfl 3 (by decide +kernel) (hts (.fieldLink RX3 45 "FairWheel$Scanner" "code" "I") (by decide +kernel)) (fun _ h9 => h9) rfl dX3_pass_4 ?_
  refine lv_iload_n hx hb dX3_pass_7 rfl (lv_at hl 1 rfl) ?_
  refine lv_icmp_eq (tgt := 16) hx hb dX3_pass_8 (by decide +kernel) (fun c_1 => ?_) (fun c_1 => ?_)
  · refine lv_aload_n hx hb dX3_pass_16 rfl (lv_at hl 0 rfl) ?_
    refine va_get (D := D) (ci := 3) (v := .ref sc) (C := RX3) (T := TX3) (N := 6) hx hb hts iw_X3_pass_3 hown hC.1 hP 0 rfl rfl 0 (by decide +kernel) (hts (.fieldLink RX3 23 "FairWheel$Reader" "scanner" "LFairWheel$Scanner;") (by decide +kernel)) (fun _ h9 => h9) rfl dX3_pass_17 ?_
    refine kc_v (wr := [(h0, .inr (3, [.ref sc, .ref pl, .int xt, .int xm, .int xf, .int xg]))]) (va_runV (As := []) (rest := []) ⟨hx, hb, hml, hown, hts⟩ (s_X5_next l D ca s.heap.size K sc tp tb ka kt xs xc xv xl fb (by omega) (by omega)) (cwV 0 hts gX3_pass_X5_next rfl rfl rfl (by decide +kernel) ⟨(Nat.le_of_ble_eq_true rfl), (Nat.le_of_ble_eq_true rfl)⟩) (PCk.preV (ci := 5) hC hP hD hK hS hA [1, 2, 3] rfl (by decide +kernel) rfl rfl) rfl rfl hl.1 rfl (lv_room (Nat.le_of_ble_eq_true rfl)) dX3_pass_20 ⟨(Nat.le_of_ble_eq_true rfl), (Nat.le_of_ble_eq_true rfl)⟩) hP hD hS hA [1, 2, 3] [0] rfl rfl (by decide +kernel) (by decide +kernel) (fun u_3 H locs hw_2 hP hD hS => ?_)
    obtain ⟨k_4, x_5, x_6, x_7, x_8⟩ := u_3
    have hu_9 := hw_2
    have hP : va_P D vwCl [(h0, .inr (3, [.ref sc, .ref pl, .int xt, .int xm, .int xf, .int xg])), (sc, .inr (5, [.ref tp, .int (nI k_4), .int x_5, .int x_6, .long x_7, .int x_8])), (tp, .inr (7, [.ref tb, .int (nI kt)])), (tb, .inl (ca 0, 1700, .inl fb))] H := hP
    have hD : va_D A [(h0, .inr (3, [.ref sc, .ref pl, .int xt, .int xm, .int xf, .int xg])), (sc, .inr (5, [.ref tp, .int (nI k_4), .int x_5, .int x_6, .long x_7, .int x_8])), (tp, .inr (7, [.ref tb, .int (nI kt)])), (tb, .inl (ca 0, 1700, .inl fb))] := hD
    refine lv_iconst (v := 1) hx hb dX3_pass_23 (by decide +kernel) ?_
    exact W.zret (v := 1) hx hb hr (rfl) (fun t ht hW => ⟨⟨1, (xm, xf, xg, k_4, x_5, x_6, x_7, x_8), rfl, ⟨(Or.inr rfl), by dsimp only; omega⟩, by rw [ht]; exact hP.sub [0, 1, 2, 3] rfl, hDA (hD.sub [0, 1, 2, 3] (by decide +kernel) rfl)⟩, hS.F ht⟩) hS.2.2 dX3_pass_24
  · refine lv_aload_n hx hb dX3_pass_11 rfl (lv_at hl 0 rfl) ?_
    refine kc_i (wr := [(tp, .inr (7, [.ref tb, .int (nI kt)])), (tb, .inl (ca 0, 1700, .inl fb))]) (va_runV (As := []) (rest := []) ⟨hx, hb, hml, hown, hts⟩ (s_X3_refuse l D ca s.heap.size h0 sc pl tp ka xt xm xf xg xs xc xv xl) (cwV 0 hts gX3_pass_X3_refuse rfl rfl rfl (by decide +kernel) ⟨(Nat.le_of_ble_eq_true rfl), (Nat.le_of_ble_eq_true rfl)⟩) (PC.preV (ci := 3) hC hP hD [0, 1] rfl (by decide +kernel) rfl rfl) rfl rfl hl.1 rfl (lv_room (Nat.le_of_ble_eq_true rfl)) dX3_pass_12 ⟨(Nat.le_of_ble_eq_true rfl), (Nat.le_of_ble_eq_true rfl)⟩) hP hD hS hA [0, 1] [2, 3] rfl rfl (by decide +kernel) (by decide +kernel) (fun r_10 u_12 H locs hw_11 hP hD hS => ?_)
    obtain ⟨x_13, x_14⟩ := u_12
    subst hw_11
    have hP : va_P D vwCl [(tp, .inr (7, [.ref tb, .int (nI kt)])), (tb, .inl (ca 0, 1700, .inl fb)), (h0, .inr (3, [.ref sc, .ref pl, .int xt, .int xm, .int x_13, .int x_14])), (sc, .inr (5, [.ref tp, .int (nI ka), .int xs, .int xc, .long xl, .int xv]))] H := hP
    have hD : va_D A [(tp, .inr (7, [.ref tb, .int (nI kt)])), (tb, .inl (ca 0, 1700, .inl fb)), (h0, .inr (3, [.ref sc, .ref pl, .int xt, .int xm, .int x_13, .int x_14])), (sc, .inr (5, [.ref tp, .int (nI ka), .int xs, .int xc, .long xl, .int xv]))] := hD
    exact W.zret (v := 0) hx hb hr (rfl) (fun t ht hW => ⟨⟨0, (xm, x_13, x_14, ka, xs, xc, xl, xv), rfl, ⟨(Or.inl rfl), by dsimp only; omega⟩, by rw [ht]; exact hP.sub [2, 3, 0, 1] rfl, hDA (hD.sub [2, 3, 0, 1] (by decide +kernel) rfl)⟩, hS.F ht⟩) hS.2.2 dX3_pass_15
theorem iw_X3_readNumber_3 : ∀ w ∈ u_ws RX3 TX3 6, w ∈ wsX3_readNumber := by decide +kernel
theorem iw_X3_readNumber_5 : ∀ w ∈ u_ws RX5 TX5 6, w ∈ wsX3_readNumber := by decide +kernel
set_option maxHeartbeats 4000000 in
set_option maxRecDepth 100000 in
theorem s_X3_readNumber (l : Launch) (D : va_G) (ca : Nat → ClassId) (sz : Nat) (K : (Nat × Nat × Option Nat) × (Nat → Int32)) (h0 : Nat) (sc : Nat) (pl : Nat) (tp : Nat) (tb : Nat) (ka : Nat) (kt : Nat) (xt : Int32) (xm : Int32) (xf : Int32) (xg : Int32) (xs : Int32) (xc : Int32) (xv : Int32) (xl : Int64) (fb : Nat → Int32) (q1 : Nat) (q2 : Nat) (hn : kt ≤ 1700) (ha : ka ≤ kt) (hq1 : q1 < 1000) (hq2 : q2 < 1000) : Met l yX3_readNumber wsX3_readNumber ({ frames := 6, cells := 0, slots := 0, locals := 131 }) (PCk K [.ref h0, .int (nI q1), .int (nI q2)] sz D ca [(h0, .inr (3, [.ref sc, .ref pl, .int xt, .int xm, .int xf, .int xg])), (sc, .inr (5, [.ref tp, .int (nI ka), .int xs, .int xc, .long xl, .int xv])), (tp, .inr (7, [.ref tb, .int (nI kt)])), (tb, .inl (ca 0, 1700, .inl fb))]) (QI (fun (r : Int32) (u : Int32 × Int32 × Int32 × Nat × Int32 × Int32 × Int64 × Int32) => (r = 0 ∨ (r = 1 ∧ ∃ k : Nat, k ≤ q2 ∧ u.1 = nI k)) ∧ u.2.2.2.1 ≤ kt) (fun (u : Int32 × Int32 × Int32 × Nat × Int32 × Int32 × Int64 × Int32) => [(h0, .inr (3, [.ref sc, .ref pl, .int xt, .int u.1, .int u.2.1, .int u.2.2.1])), (sc, .inr (5, [.ref tp, .int (nI u.2.2.2.1), .int u.2.2.2.2.1, .int u.2.2.2.2.2.1, .long u.2.2.2.2.2.2.1, .int u.2.2.2.2.2.2.2])), (tp, .inr (7, [.ref tb, .int (nI kt)])), (tb, .inl (ca 0, 1700, .inl fb))]) [(h0, .inr (3, [.ref sc, .ref pl, .int xt, .int xm, .int xf, .int xg])), (sc, .inr (5, [.ref tp, .int (nI ka), .int xs, .int xc, .long xl, .int xv])), (tp, .inr (7, [.ref tb, .int (nI kt)])), (tb, .inl (ca 0, 1700, .inl fb))] sz D) 0 0 (va_A [(h0, .inr (3, [.ref sc, .ref pl, .int xt, .int xm, .int xf, .int xg])), (sc, .inr (5, [.ref tp, .int (nI ka), .int xs, .int xc, .long xl, .int xv])), (tp, .inr (7, [.ref tb, .int (nI kt)])), (tb, .inl (ca 0, 1700, .inl fb))] sz) := by
  refine Met.ofW (cc := cX3_readNumber) (maxL := 3) (ret := (some .boolean)) (by decide +kernel) rfl ?_
  intro p e s m args below meth c s₁ B hml hv
  obtain ⟨rfl, ⟨hsz, hP, hC, hD0⟩, hK⟩ := hv
  have hx := B.exec
  have hb := B.bytes
  have hr := B.returns
  have hts := atoms_spec (ws := wsX3_readNumber) B.pre
  have hown : s.vm.findClass RX3 = some m.cls := findClass_of_methodNamed B.named
  have hlocks := B.notSynchronized
  subst hsz
  have hD := hD0.self (sz := s.heap.size)
  dsimp only [QV, QI, QL, BQ]
  generalize hAe : va_A [(h0, .inr (3, [.ref sc, .ref pl, .int xt, .int xm, .int xf, .int xg])), (sc, .inr (5, [.ref tp, .int (nI ka), .int xs, .int xc, .long xl, .int xv])), (tp, .inr (7, [.ref tb, .int (nI kt)])), (tb, .inl (ca 0, 1700, .inl fb))] s.heap.size = A at hD hK ⊢
  have hA : ∀ q : Nat, s.heap.size ≤ q → A q := fun q h => by rw [← hAe]; exact Or.inr h
  have hDA : ∀ {w : va_W}, va_D A w → va_D (va_A [(h0, .inr (3, [.ref sc, .ref pl, .int xt, .int xm, .int xf, .int xg])), (sc, .inr (5, [.ref tp, .int (nI ka), .int xs, .int xc, .long xl, .int xv])), (tp, .inr (7, [.ref tb, .int (nI kt)])), (tb, .inl (ca 0, 1700, .inl fb))] s.heap.size) w := fun h => by rw [hAe]; exact h
  have hS : va_S A s.heap s.heap [] := va_S.rf
  have hP : va_P D vwCl [(h0, .inr (3, [.ref sc, .ref pl, .int xt, .int xm, .int xf, .int xg])), (sc, .inr (5, [.ref tp, .int (nI ka), .int xs, .int xc, .long xl, .int xv])), (tp, .inr (7, [.ref tb, .int (nI kt)])), (tb, .inl (ca 0, 1700, .inl fb))] s.heap := hP
  have hl := lv_entry ([.ref h0, .int (nI q1), .int (nI q2)]) (n := 3) (Nat.le_of_ble_eq_true rfl)
  rw [lg_entry_eq]
  generalize (lg_sl ([.ref h0, .int (nI q1), .int (nI q2)]) ++ List.replicate (3 - (lg_sl ([.ref h0, .int (nI q1), .int (nI q2)])).length) Slot.unset).toArray = ls at hl ⊢
  have hl : lv_has ls 3 [(0, .ref h0), (1, .int (nI q1)), (2, .int (nI q2))] := hl
  refine lv_aload_n hx hb dX3_readNumber_0 rfl (lv_at hl 0 rfl) ?_
  refine va_get (D := D) (ci := 3) (v := .ref sc) (C := RX3) (T := TX3) (N := 6) hx hb hts iw_X3_readNumber_3 hown hC.1 hP 0 rfl rfl 0 (by decide +kernel) (hts (.fieldLink RX3 23 "FairWheel$Reader" "scanner" "LFairWheel$Scanner;") (by decide +kernel)) (fun _ h9 => h9) rfl dX3_readNumber_1 ?_
  refine va_get (D := D) (ci := 5) (v := .int xc) (C := RX5) (T := TX5) (N := 6) hx hb hts iw_X3_readNumber_5 hown hC.1 hP 1 rfl rfl 3 (by decide +kernel) (hts (.fieldLink RX3 45 "FairWheel$Scanner" "code" "I") (by decide +kernel)) (fun _ h9 => h9) rfl dX3_readNumber_4 ?_
  refine lv_bipush (v := 19) hx hb dX3_readNumber_7 (by decide +kernel) ?_
  refine lv_icmp_eq (tgt := 17) hx hb dX3_readNumber_9 (by decide +kernel) (fun c_1 => ?_) (fun c_1 => ?_)
  · refine lv_aload_n hx hb dX3_readNumber_17 rfl (lv_at hl 0 rfl) ?_
    refine va_get (D := D) (ci := 3) (v := .ref sc) (C := RX3) (T := TX3) (N := 6) hx hb hts iw_X3_readNumber_3 hown hC.1 hP 0 rfl rfl 0 (by decide +kernel) (hts (.fieldLink RX3 23 "FairWheel$Reader" "scanner" "LFairWheel$Scanner;") (by decide +kernel)) (fun _ h9 => h9) rfl dX3_readNumber_18 ?_
    refine va_get (D := D) (ci := 5) (v := .int xv) (C := RX5) (T := TX5) (N := 6) hx hb hts iw_X3_readNumber_5 hown hC.1 hP 1 rfl rfl 5 (by decide +kernel) (hts (.fieldLink RX3 129 "FairWheel$Scanner" "value" "I") (by decide +kernel)) (fun _ h9 => h9) rfl dX3_readNumber_21 ?_
    refine lv_iload_n hx hb dX3_readNumber_24 rfl (lv_at hl 1 rfl) ?_
    refine lv_icmp_lt (tgt := 39) hx hb dX3_readNumber_25 (by decide +kernel) (fun c_2 => ?_) (fun c_2 => ?_)
    · refine lv_aload_n hx hb dX3_readNumber_39 rfl (lv_at hl 0 rfl) ?_
      refine lv_iconst (v := 4) hx hb dX3_readNumber_40 (by decide +kernel) ?_
      refine kc_i (wr := [(tp, .inr (7, [.ref tb, .int (nI kt)])), (tb, .inl (ca 0, 1700, .inl fb))]) (va_runV (As := [.int 4]) (rest := []) ⟨hx, hb, hml, hown, hts⟩ (s_X3_fail l D ca s.heap.size h0 sc pl tp ka xt xm xf xg xs xc xv xl 4) (cwV 1 hts gX3_readNumber_X3_fail rfl rfl rfl (by decide +kernel) ⟨(Nat.le_of_ble_eq_true rfl), (Nat.le_of_ble_eq_true rfl)⟩) (PC.preV (ci := 3) hC hP hD [0, 1] rfl (by decide +kernel) rfl rfl) rfl rfl hl.1 rfl (lv_room (Nat.le_of_ble_eq_true rfl)) dX3_readNumber_41 ⟨(Nat.le_of_ble_eq_true rfl), (Nat.le_of_ble_eq_true rfl)⟩) hP hD hS hA [0, 1] [2, 3] rfl rfl (by decide +kernel) (by decide +kernel) (fun r_3 u_5 H locs hw_4 hP hD hS => ?_)
      subst hw_4
      have hP : va_P D vwCl [(tp, .inr (7, [.ref tb, .int (nI kt)])), (tb, .inl (ca 0, 1700, .inl fb)), (h0, .inr (3, [.ref sc, .ref pl, .int xt, .int xm, .int 4, .int xs])), (sc, .inr (5, [.ref tp, .int (nI ka), .int xs, .int xc, .long xl, .int xv]))] H := hP
      have hD : va_D A [(tp, .inr (7, [.ref tb, .int (nI kt)])), (tb, .inl (ca 0, 1700, .inl fb)), (h0, .inr (3, [.ref sc, .ref pl, .int xt, .int xm, .int 4, .int xs])), (sc, .inr (5, [.ref tp, .int (nI ka), .int xs, .int xc, .long xl, .int xv]))] := hD
      exact W.zret (v := 0) hx hb hr (rfl) (fun t ht hW => ⟨⟨0, (xm, 4, xs, ka, xs, xc, xl, xv), rfl, ⟨Or.inl rfl, by dsimp only; omega⟩, by rw [ht]; exact hP.sub [2, 3, 0, 1] rfl, hDA (hD.sub [2, 3, 0, 1] (by decide +kernel) rfl)⟩, hS.F ht⟩) hS.2.2 dX3_readNumber_44
    · refine lv_aload_n hx hb dX3_readNumber_28 rfl (lv_at hl 0 rfl) ?_
      refine va_get (D := D) (ci := 3) (v := .ref sc) (C := RX3) (T := TX3) (N := 6) hx hb hts iw_X3_readNumber_3 hown hC.1 hP 0 rfl rfl 0 (by decide +kernel) (hts (.fieldLink RX3 23 "FairWheel$Reader" "scanner" "LFairWheel$Scanner;") (by decide +kernel)) (fun _ h9 => h9) rfl dX3_readNumber_29 ?_
      refine va_get (D := D) (ci := 5) (v := .int xv) (C := RX5) (T := TX5) (N := 6) hx hb hts iw_X3_readNumber_5 hown hC.1 hP 1 rfl rfl 5 (by decide +kernel) (hts (.fieldLink RX3 129 "FairWheel$Scanner" "value" "I") (by decide +kernel)) (fun _ h9 => h9) rfl dX3_readNumber_32 ?_
      refine lv_iload_n hx hb dX3_readNumber_35 rfl (lv_at hl 2 rfl) ?_
      refine lv_icmp_le (tgt := 45) hx hb dX3_readNumber_36 (by decide +kernel) (fun c_6 => ?_) (fun c_6 => ?_)
      · obtain ⟨kv, hv1, hv2, rfl⟩ := nat_rng c_2 c_6 (by omega) (by omega)
        refine lv_aload_n hx hb dX3_readNumber_45 rfl (lv_at hl 0 rfl) ?_
        refine lv_aload_n hx hb dX3_readNumber_46 rfl (lv_at hl 0 rfl) ?_
        refine va_get (D := D) (ci := 3) (v := .ref sc) (C := RX3) (T := TX3) (N := 6) hx hb hts iw_X3_readNumber_3 hown hC.1 hP 0 rfl rfl 0 (by decide +kernel) (hts (.fieldLink RX3 23 "FairWheel$Reader" "scanner" "LFairWheel$Scanner;") (by decide +kernel)) (fun _ h9 => h9) rfl dX3_readNumber_47 ?_
        refine va_get (D := D) (ci := 5) (v := .int (nI kv)) (C := RX5) (T := TX5) (N := 6) hx hb hts iw_X3_readNumber_5 hown hC.1 hP 1 rfl rfl 5 (by decide +kernel) (hts (.fieldLink RX3 129 "FairWheel$Scanner" "value" "I") (by decide +kernel)) (fun _ h9 => h9) rfl dX3_readNumber_50 ?_
        refine va_put (D := D) (ci := 3) (v := .int (nI kv)) (ty := .int) (C := RX3) (T := TX3) (N := 6) hx hb hts iw_X3_readNumber_3 tyX3 tyX3_ok nmX3 hown hC.1 hP hD hS 0 rfl rfl 3 (by decide +kernel) (hts (.fieldLink RX3 70 "FairWheel$Reader" "number" "I") (by decide +kernel)) (fun _ h9 => h9) rfl (by decide +kernel) rfl rfl (Nat.le_of_ble_eq_true rfl) dX3_readNumber_53 (fun H locs hP hD hS => ?_)
        have hP : va_P D vwCl [(h0, .inr (3, [.ref sc, .ref pl, .int xt, .int (nI kv), .int xf, .int xg])), (sc, .inr (5, [.ref tp, .int (nI ka), .int xs, .int xc, .long xl, .int (nI kv)])), (tp, .inr (7, [.ref tb, .int (nI kt)])), (tb, .inl (ca 0, 1700, .inl fb))] H := hP
        have hD : va_D A [(h0, .inr (3, [.ref sc, .ref pl, .int xt, .int (nI kv), .int xf, .int xg])), (sc, .inr (5, [.ref tp, .int (nI ka), .int xs, .int xc, .long xl, .int (nI kv)])), (tp, .inr (7, [.ref tb, .int (nI kt)])), (tb, .inl (ca 0, 1700, .inl fb))] := hD
        refine lv_aload_n hx hb dX3_readNumber_56 rfl (lv_at hl 0 rfl) ?_
        refine va_get (D := D) (ci := 3) (v := .ref sc) (C := RX3) (T := TX3) (N := 6) hx hb hts iw_X3_readNumber_3 hown hC.1 hP 0 rfl rfl 0 (by decide +kernel) (hts (.fieldLink RX3 23 "FairWheel$Reader" "scanner" "LFairWheel$Scanner;") (by decide +kernel)) (fun _ h9 => h9) rfl dX3_readNumber_57 ?_
        refine kc_v (wr := [(h0, .inr (3, [.ref sc, .ref pl, .int xt, .int (nI kv), .int xf, .int xg]))]) (va_runV (As := []) (rest := []) ⟨hx, hb, hml, hown, hts⟩ (s_X5_next l D ca H.size K sc tp tb ka kt xs xc (nI kv) xl fb (by omega) (by omega)) (cwV 0 hts gX3_readNumber_X5_next rfl rfl rfl (by decide +kernel) ⟨(Nat.le_of_ble_eq_true rfl), (Nat.le_of_ble_eq_true rfl)⟩) (PCk.preV (ci := 5) hC hP hD hK hS hA [1, 2, 3] rfl (by decide +kernel) rfl rfl) rfl rfl hl.1 rfl (lv_room (Nat.le_of_ble_eq_true rfl)) dX3_readNumber_60 ⟨(Nat.le_of_ble_eq_true rfl), (Nat.le_of_ble_eq_true rfl)⟩) hP hD hS hA [1, 2, 3] [0] rfl rfl (by decide +kernel) (by decide +kernel) (fun u_8 H locs hw_7 hP hD hS => ?_)
        obtain ⟨k_9, x_10, x_11, x_12, x_13⟩ := u_8
        have hu_14 := hw_7
        have hP : va_P D vwCl [(h0, .inr (3, [.ref sc, .ref pl, .int xt, .int (nI kv), .int xf, .int xg])), (sc, .inr (5, [.ref tp, .int (nI k_9), .int x_10, .int x_11, .long x_12, .int x_13])), (tp, .inr (7, [.ref tb, .int (nI kt)])), (tb, .inl (ca 0, 1700, .inl fb))] H := hP
        have hD : va_D A [(h0, .inr (3, [.ref sc, .ref pl, .int xt, .int (nI kv), .int xf, .int xg])), (sc, .inr (5, [.ref tp, .int (nI k_9), .int x_10, .int x_11, .long x_12, .int x_13])), (tp, .inr (7, [.ref tb, .int (nI kt)])), (tb, .inl (ca 0, 1700, .inl fb))] := hD
        refine lv_iconst (v := 1) hx hb dX3_readNumber_63 (by decide +kernel) ?_
        exact W.zret (v := 1) hx hb hr (rfl) (fun t ht hW => ⟨⟨1, (nI kv, xf, xg, k_9, x_10, x_11, x_12, x_13), rfl, ⟨Or.inr ⟨rfl, kv, hv2, rfl⟩, by dsimp only; omega⟩, by rw [ht]; exact hP.sub [0, 1, 2, 3] rfl, hDA (hD.sub [0, 1, 2, 3] (by decide +kernel) rfl)⟩, hS.F ht⟩) hS.2.2 dX3_readNumber_64
      · refine lv_aload_n hx hb dX3_readNumber_39 rfl (lv_at hl 0 rfl) ?_
        refine lv_iconst (v := 4) hx hb dX3_readNumber_40 (by decide +kernel) ?_
        refine kc_i (wr := [(tp, .inr (7, [.ref tb, .int (nI kt)])), (tb, .inl (ca 0, 1700, .inl fb))]) (va_runV (As := [.int 4]) (rest := []) ⟨hx, hb, hml, hown, hts⟩ (s_X3_fail l D ca s.heap.size h0 sc pl tp ka xt xm xf xg xs xc xv xl 4) (cwV 1 hts gX3_readNumber_X3_fail rfl rfl rfl (by decide +kernel) ⟨(Nat.le_of_ble_eq_true rfl), (Nat.le_of_ble_eq_true rfl)⟩) (PC.preV (ci := 3) hC hP hD [0, 1] rfl (by decide +kernel) rfl rfl) rfl rfl hl.1 rfl (lv_room (Nat.le_of_ble_eq_true rfl)) dX3_readNumber_41 ⟨(Nat.le_of_ble_eq_true rfl), (Nat.le_of_ble_eq_true rfl)⟩) hP hD hS hA [0, 1] [2, 3] rfl rfl (by decide +kernel) (by decide +kernel) (fun r_15 u_17 H locs hw_16 hP hD hS => ?_)
        subst hw_16
        have hP : va_P D vwCl [(tp, .inr (7, [.ref tb, .int (nI kt)])), (tb, .inl (ca 0, 1700, .inl fb)), (h0, .inr (3, [.ref sc, .ref pl, .int xt, .int xm, .int 4, .int xs])), (sc, .inr (5, [.ref tp, .int (nI ka), .int xs, .int xc, .long xl, .int xv]))] H := hP
        have hD : va_D A [(tp, .inr (7, [.ref tb, .int (nI kt)])), (tb, .inl (ca 0, 1700, .inl fb)), (h0, .inr (3, [.ref sc, .ref pl, .int xt, .int xm, .int 4, .int xs])), (sc, .inr (5, [.ref tp, .int (nI ka), .int xs, .int xc, .long xl, .int xv]))] := hD
        exact W.zret (v := 0) hx hb hr (rfl) (fun t ht hW => ⟨⟨0, (xm, 4, xs, ka, xs, xc, xl, xv), rfl, ⟨Or.inl rfl, by dsimp only; omega⟩, by rw [ht]; exact hP.sub [2, 3, 0, 1] rfl, hDA (hD.sub [2, 3, 0, 1] (by decide +kernel) rfl)⟩, hS.F ht⟩) hS.2.2 dX3_readNumber_44
  · refine lv_aload_n hx hb dX3_readNumber_12 rfl (lv_at hl 0 rfl) ?_
    refine kc_i (wr := [(tp, .inr (7, [.ref tb, .int (nI kt)])), (tb, .inl (ca 0, 1700, .inl fb))]) (va_runV (As := []) (rest := []) ⟨hx, hb, hml, hown, hts⟩ (s_X3_refuse l D ca s.heap.size h0 sc pl tp ka xt xm xf xg xs xc xv xl) (cwV 0 hts gX3_readNumber_X3_refuse rfl rfl rfl (by decide +kernel) ⟨(Nat.le_of_ble_eq_true rfl), (Nat.le_of_ble_eq_true rfl)⟩) (PC.preV (ci := 3) hC hP hD [0, 1] rfl (by decide +kernel) rfl rfl) rfl rfl hl.1 rfl (lv_room (Nat.le_of_ble_eq_true rfl)) dX3_readNumber_13 ⟨(Nat.le_of_ble_eq_true rfl), (Nat.le_of_ble_eq_true rfl)⟩) hP hD hS hA [0, 1] [2, 3] rfl rfl (by decide +kernel) (by decide +kernel) (fun r_18 u_20 H locs hw_19 hP hD hS => ?_)
    obtain ⟨x_21, x_22⟩ := u_20
    subst hw_19
    have hP : va_P D vwCl [(tp, .inr (7, [.ref tb, .int (nI kt)])), (tb, .inl (ca 0, 1700, .inl fb)), (h0, .inr (3, [.ref sc, .ref pl, .int xt, .int xm, .int x_21, .int x_22])), (sc, .inr (5, [.ref tp, .int (nI ka), .int xs, .int xc, .long xl, .int xv]))] H := hP
    have hD : va_D A [(tp, .inr (7, [.ref tb, .int (nI kt)])), (tb, .inl (ca 0, 1700, .inl fb)), (h0, .inr (3, [.ref sc, .ref pl, .int xt, .int xm, .int x_21, .int x_22])), (sc, .inr (5, [.ref tp, .int (nI ka), .int xs, .int xc, .long xl, .int xv]))] := hD
    exact W.zret (v := 0) hx hb hr (rfl) (fun t ht hW => ⟨⟨0, (xm, x_21, x_22, ka, xs, xc, xl, xv), rfl, ⟨Or.inl rfl, by dsimp only; omega⟩, by rw [ht]; exact hP.sub [2, 3, 0, 1] rfl, hDA (hD.sub [2, 3, 0, 1] (by decide +kernel) rfl)⟩, hS.F ht⟩) hS.2.2 dX3_readNumber_16
