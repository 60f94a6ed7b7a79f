set_option maxRecDepth 20000 in
theorem ggX4_goRound_X4_fewestBehind : GoodIn wsX4_goRound wsX4_fewestBehind := goodIn_r _ [7, 8, 9, 10, 11, 12, 13, 18, 19, 20, 21] (by decide +kernel) (by decide +kernel)
set_option maxRecDepth 20000 in
theorem gX4_goRound_X4_fewestBehind : GoodIn wsX4_goRound (wsV RX4 61 RX4 yX4_fewestBehind wsX4_fewestBehind) := goodIn_app (goodIn_of _ (by decide +kernel)) ggX4_goRound_X4_fewestBehind
set_option maxRecDepth 20000 in
theorem ggX4_goRound_X4_firstBehind : GoodIn wsX4_goRound wsX4_firstBehind := goodIn_r _ [17, 8, 9, 18, 19, 20, 21] (by decide +kernel) (by decide +kernel)
set_option maxRecDepth 20000 in
theorem gX4_goRound_X4_firstBehind : GoodIn wsX4_goRound (wsV RX4 70 RX4 yX4_firstBehind wsX4_firstBehind) := goodIn_app (goodIn_of _ (by decide +kernel)) ggX4_goRound_X4_firstBehind
theorem dX4_goRound_0 : decode cX4_goRound 0 = .ok (.aload_n 0, 1) := by decide +kernel
theorem dX4_goRound_1 : decode cX4_goRound 1 = .ok (.iload_n 1, 1) := by decide +kernel
theorem dX4_goRound_2 : decode cX4_goRound 2 = .ok (.invokevirtual 61, 3) := by decide +kernel
theorem dX4_goRound_5 : decode cX4_goRound 5 = .ok (.istore_n 2, 1) := by decide +kernel
theorem dX4_goRound_6 : decode cX4_goRound 6 = .ok (.iload_n 1, 1) := by decide +kernel
theorem dX4_goRound_7 : decode cX4_goRound 7 = .ok (.istore_n 3, 1) := by decide +kernel
theorem dX4_goRound_8 : decode cX4_goRound 8 = .ok (.iload_n 2, 1) := by decide +kernel
theorem dX4_goRound_9 : decode cX4_goRound 9 = .ok (.bipush 6, 2) := by decide +kernel
theorem dX4_goRound_11 : decode cX4_goRound 11 = .ok (.if_icmp .lt 4, 3) := by decide +kernel
theorem dX4_goRound_14 : decode cX4_goRound 14 = .ok (.return_, 1) := by decide +kernel
theorem dX4_goRound_15 : decode cX4_goRound 15 = .ok (.iconst 0, 1) := by decide +kernel
theorem dX4_goRound_16 : decode cX4_goRound 16 = .ok (.istore 4, 2) := by decide +kernel
theorem dX4_goRound_18 : decode cX4_goRound 18 = .ok (.iload 4, 2) := by decide +kernel
theorem dX4_goRound_20 : decode cX4_goRound 20 = .ok (.bipush 6, 2) := by decide +kernel
theorem dX4_goRound_22 : decode cX4_goRound 22 = .ok (.if_icmp .ge 44, 3) := by decide +kernel
theorem dX4_goRound_25 : decode cX4_goRound 25 = .ok (.iload_n 2, 1) := by decide +kernel
theorem dX4_goRound_26 : decode cX4_goRound 26 = .ok (.ifCond .lt 40, 3) := by decide +kernel
theorem dX4_goRound_29 : decode cX4_goRound 29 = .ok (.iload_n 3, 1) := by decide +kernel
theorem dX4_goRound_30 : decode cX4_goRound 30 = .ok (.iconst (-1), 1) := by decide +kernel
theorem dX4_goRound_31 : decode cX4_goRound 31 = .ok (.if_icmp .eq 35, 3) := by decide +kernel
theorem dX4_goRound_34 : decode cX4_goRound 34 = .ok (.aload_n 0, 1) := by decide +kernel
theorem dX4_goRound_35 : decode cX4_goRound 35 = .ok (.getfield 22, 3) := by decide +kernel
theorem dX4_goRound_38 : decode cX4_goRound 38 = .ok (.iload 4, 2) := by decide +kernel
theorem dX4_goRound_40 : decode cX4_goRound 40 = .ok (.iload_n 3, 1) := by decide +kernel
theorem dX4_goRound_41 : decode cX4_goRound 41 = .ok (.iastore, 1) := by decide +kernel
theorem dX4_goRound_42 : decode cX4_goRound 42 = .ok (.aload_n 0, 1) := by decide +kernel
theorem dX4_goRound_43 : decode cX4_goRound 43 = .ok (.iload 4, 2) := by decide +kernel
theorem dX4_goRound_45 : decode cX4_goRound 45 = .ok (.iconst 1, 1) := by decide +kernel
theorem dX4_goRound_46 : decode cX4_goRound 46 = .ok (.iadd, 1) := by decide +kernel
theorem dX4_goRound_47 : decode cX4_goRound 47 = .ok (.putfield 18, 3) := by decide +kernel
theorem dX4_goRound_50 : decode cX4_goRound 50 = .ok (.aload_n 0, 1) := by decide +kernel
theorem dX4_goRound_51 : decode cX4_goRound 51 = .ok (.iload_n 3, 1) := by decide +kernel
theorem dX4_goRound_52 : decode cX4_goRound 52 = .ok (.iload_n 2, 1) := by decide +kernel
theorem dX4_goRound_53 : decode cX4_goRound 53 = .ok (.invokevirtual 70, 3) := by decide +kernel
theorem dX4_goRound_56 : decode cX4_goRound 56 = .ok (.istore_n 3, 1) := by decide +kernel
theorem dX4_goRound_57 : decode cX4_goRound 57 = .ok (.iinc 2 (-1), 3) := by decide +kernel
theorem dX4_goRound_60 : decode cX4_goRound 60 = .ok (.iinc 4 1, 3) := by decide +kernel
theorem dX4_goRound_63 : decode cX4_goRound 63 = .ok (.goto (-45), 3) := by decide +kernel
theorem dX4_goRound_66 : decode cX4_goRound 66 = .ok (.return_, 1) := by decide +kernel
theorem iw_X4_goRound_4 : ∀ w ∈ u_ws RX4 TX4 4, w ∈ wsX4_goRound := by decide +kernel
set_option maxHeartbeats 4000000 in
set_option maxRecDepth 100000 in
theorem s_X4_goRound (l : Launch) (D : va_G) (ca : Nat → ClassId) (sz : Nat) (h0 : Nat) (e1 : Nat) (e2 : Nat) (e3 : Nat) (ks : Nat) (fe1 : Nat → Int32) (fe2 : Nat → Int32) (fe3 : Nat → Int32) (k : Nat) (hk : k < 6) (hks : ks ≤ 6) : Met l yX4_goRound wsX4_goRound ({ frames := 2, cells := 0, slots := 0, locals := 36 }) (PC [.ref h0, .int (nI k)] sz D ca [(h0, .inr (4, [.ref e1, .ref e2, .int (nI ks), .ref e3])), (e1, .inl (ca 1, 6, .inl fe1)), (e2, .inl (ca 1, 6, .inl fe2)), (e3, .inl (ca 1, 6, .inl fe3))]) (QV (fun (u : Nat × (Nat → Int32)) => u.1 ≤ 6) (fun (u : Nat × (Nat → Int32)) => [(h0, .inr (4, [.ref e1, .ref e2, .int (nI u.1), .ref e3])), (e1, .inl (ca 1, 6, .inl fe1)), (e2, .inl (ca 1, 6, .inl fe2)), (e3, .inl (ca 1, 6, .inl u.2))]) [(h0, .inr (4, [.ref e1, .ref e2, .int (nI ks), .ref e3])), (e1, .inl (ca 1, 6, .inl fe1)), (e2, .inl (ca 1, 6, .inl fe2)), (e3, .inl (ca 1, 6, .inl fe3))] sz D) 0 0 (va_A [(h0, .inr (4, [.ref e1, .ref e2, .int (nI ks), .ref e3])), (e1, .inl (ca 1, 6, .inl fe1)), (e2, .inl (ca 1, 6, .inl fe2)), (e3, .inl (ca 1, 6, .inl fe3))] sz) := by
  refine Met.ofW (cc := cX4_goRound) (maxL := 5) (ret := none) (by decide +kernel) rfl ?_
  intro p e s m args below meth c s₁ B hml hv
  obtain ⟨rfl, hsz, hP, hC, hD0⟩ := hv
  have hx := B.exec
  have hb := B.bytes
  have hr := B.returns
  have hts := atoms_spec (ws := wsX4_goRound) B.pre
  have hown : s.vm.findClass RX4 = some m.cls := findClass_of_methodNamed B.named
  have hlocks := B.notSynchronized
  subst hsz
  have hD := hD0.self (sz := s.heap.size)
  dsimp only [QV, QI, QL, BQ]
  generalize hAe : va_A [(h0, .inr (4, [.ref e1, .ref e2, .int (nI ks), .ref e3])), (e1, .inl (ca 1, 6, .inl fe1)), (e2, .inl (ca 1, 6, .inl fe2)), (e3, .inl (ca 1, 6, .inl fe3))] s.heap.size = A at hD ⊢
  have hA : ∀ q : Nat, s.heap.size ≤ q → A q := fun q h => by rw [← hAe]; exact Or.inr h
  have hDA : ∀ {w : va_W}, va_D A w → va_D (va_A [(h0, .inr (4, [.ref e1, .ref e2, .int (nI ks), .ref e3])), (e1, .inl (ca 1, 6, .inl fe1)), (e2, .inl (ca 1, 6, .inl fe2)), (e3, .inl (ca 1, 6, .inl fe3))] s.heap.size) w := fun h => by rw [hAe]; exact h
  have hS : va_S A s.heap s.heap [] := va_S.rf
  have hP : va_P D vwCl [(h0, .inr (4, [.ref e1, .ref e2, .int (nI ks), .ref e3])), (e1, .inl (ca 1, 6, .inl fe1)), (e2, .inl (ca 1, 6, .inl fe2)), (e3, .inl (ca 1, 6, .inl fe3))] s.heap := hP
  have hl := lv_entry ([.ref h0, .int (nI k)]) (n := 5) (Nat.le_of_ble_eq_true rfl)
  rw [lg_entry_eq]
  generalize (lg_sl ([.ref h0, .int (nI k)]) ++ List.replicate (5 - (lg_sl ([.ref h0, .int (nI k)])).length) Slot.unset).toArray = ls at hl ⊢
  have hl : lv_has ls 5 [(0, .ref h0), (1, .int (nI k))] := hl
  refine lv_aload_n hx hb dX4_goRound_0 rfl (lv_at hl 0 rfl) ?_
  refine lv_iload_n hx hb dX4_goRound_1 rfl (lv_at hl 1 rfl) ?_
  refine kc_i (wr := [(e3, .inl (ca 1, 6, .inl fe3))]) (va_runV (As := [.int (nI k)]) (rest := []) ⟨hx, hb, hml, hown, hts⟩ (s_X4_fewestBehind l D ca s.heap.size h0 e1 e2 e3 ks fe1 fe2 k (by omega)) (cwV 1 hts gX4_goRound_X4_fewestBehind rfl rfl rfl (by decide +kernel) ⟨(Nat.le_of_ble_eq_true rfl), (Nat.le_of_ble_eq_true rfl)⟩) (PC.preV (ci := 4) hC hP hD [0, 1, 2] rfl (by decide +kernel) rfl rfl) rfl rfl hl.1 rfl (lv_room (Nat.le_of_ble_eq_true rfl)) dX4_goRound_2 ⟨(Nat.le_of_ble_eq_true rfl), (Nat.le_of_ble_eq_true rfl)⟩) hP hD hS hA [0, 1, 2] [3] rfl rfl (by decide +kernel) (by decide +kernel) (fun r_1 u_3 H locs hw_2 hP hD hS => ?_)
  have hP : va_P D vwCl [(e3, .inl (ca 1, 6, .inl fe3)), (h0, .inr (4, [.ref e1, .ref e2, .int (nI ks), .ref e3])), (e1, .inl (ca 1, 6, .inl fe1)), (e2, .inl (ca 1, 6, .inl fe2))] H := hP
  have hD : va_D A [(e3, .inl (ca 1, 6, .inl fe3)), (h0, .inr (4, [.ref e1, .ref e2, .int (nI ks), .ref e3])), (e1, .inl (ca 1, 6, .inl fe1)), (e2, .inl (ca 1, 6, .inl fe2))] := hD
  refine lv_istore_n (lv' := [(2, .int r_1), (0, .ref h0), (1, .int (nI k))]) hx hb dX4_goRound_5 rfl hl (by decide +kernel) rfl (fun ls hl => ?_)
  refine lv_iload_n hx hb dX4_goRound_6 rfl (lv_at hl 2 rfl) ?_
  refine lv_istore_n (lv' := [(3, .int (nI k)), (2, .int r_1), (0, .ref h0), (1, .int (nI k))]) hx hb dX4_goRound_7 rfl hl (by decide +kernel) rfl (fun ls hl => ?_)
  refine lv_iload_n hx hb dX4_goRound_8 rfl (lv_at hl 1 rfl) ?_
  refine lv_bipush (v := 6) hx hb dX4_goRound_9 (by decide +kernel) ?_
  refine lv_icmp_lt (tgt := 15) hx hb dX4_goRound_11 (by decide +kernel) (fun c_4 => ?_) (fun c_4 => ?_)
  · refine lv_iconst (v := 0) hx hb dX4_goRound_15 (by decide +kernel) ?_
    refine lv_istore (lv' := [(4, .int 0), (3, .int (nI k)), (2, .int r_1), (0, .ref h0), (1, .int (nI k))]) hx hb dX4_goRound_16 hl (by decide +kernel) rfl (fun ls hl => ?_)
    refine lp_ind (I := fun (n : Nat) H locs ls => ∃ (jz : Nat) (ji : Nat) (jl : Int32) (jx : Int32) (je : Nat → Int32), ji ≤ 6 ∧ ji + n = 7 ∧ jz ≤ 6 ∧ (jx = -1 ∨ ∃ j : Nat, j < 6 ∧ jx = nI j) ∧ lv_has ls 5 [(4, .int (nI ji)), (3, .int jx), (2, .int jl), (0, .ref h0), (1, .int (nI k))] ∧ va_P D vwCl [(e3, .inl (ca 1, 6, .inl je)), (h0, .inr (4, [.ref e1, .ref e2, .int (nI jz), .ref e3])), (e1, .inl (ca 1, 6, .inl fe1)), (e2, .inl (ca 1, 6, .inl fe2))] H ∧ va_D A [(e3, .inl (ca 1, 6, .inl je)), (h0, .inr (4, [.ref e1, .ref e2, .int (nI jz), .ref e3])), (e1, .inl (ca 1, 6, .inl fe1)), (e2, .inl (ca 1, 6, .inl fe2))] ∧ va_S A s.heap H locs) (Wf := fun H locs ls => W p l e _ s m _ below meth c H locs _ _ _ (F0 m 18 ls [])) (7) ⟨ks, 0, r_1, (nI k), fe3, (by omega), (by omega), (by omega), Or.inr ⟨k, hk, rfl⟩, hl, hP, hD, hS⟩ ?_ ?_
    · intro H locs ls hI
      obtain ⟨jz, ji, jl, jx, je, hji, hm, hz, hxj, -⟩ := hI
      omega
    intro n ih_5 H locs ls hI
    obtain ⟨jz, ji, jl, jx, je, hji, hm, hz, hxj, hl, hP, hD, hS⟩ := hI
    refine lv_iload hx hb dX4_goRound_18 (lv_at hl 0 rfl) ?_
    refine lv_bipush (v := 6) hx hb dX4_goRound_20 (by decide +kernel) ?_
    refine lv_icmp_ge (tgt := 66) hx hb dX4_goRound_22 (by decide +kernel) (fun c_6 => ?_) (fun c_6 => ?_)
    · have nc_6 : 6 ≤ ji := (nI_leI (a := 6) (b := ji) (by omega) (by omega)).mp c_6
      exact W.vret hx hb hr (fun t ht hW => ⟨⟨(jz, je), rfl, (by dsimp only; omega), by rw [ht]; exact hP.sub [1, 2, 3, 0] rfl, hDA (hD.sub [1, 2, 3, 0] (by decide +kernel) rfl)⟩, hS.F ht⟩) hS.2.2 dX4_goRound_66
    · have nc_6 : ¬ (6 ≤ ji) := fun h => c_6 ((nI_leI (a := 6) (b := ji) (by omega) (by omega)).mpr h)
      refine lv_iload_n hx hb dX4_goRound_25 rfl (lv_at hl 2 rfl) ?_
      refine lv_if_lt (tgt := 66) hx hb dX4_goRound_26 (by decide +kernel) (fun c_7 => ?_) (fun c_7 => ?_)
      ·
        exact W.vret hx hb hr (fun t ht hW => ⟨⟨(jz, je), rfl, (by dsimp only; omega), by rw [ht]; exact hP.sub [1, 2, 3, 0] rfl, hDA (hD.sub [1, 2, 3, 0] (by decide +kernel) rfl)⟩, hS.F ht⟩) hS.2.2 dX4_goRound_66
      · refine lv_iload_n hx hb dX4_goRound_29 rfl (lv_at hl 1 rfl) ?_
        refine lv_iconst (v := (-1)) hx hb dX4_goRound_30 (by decide +kernel) ?_
        refine lv_icmp_eq (tgt := 66) hx hb dX4_goRound_31 (by decide +kernel) (fun c_8 => ?_) (fun c_8 => ?_)
        ·
          exact W.vret hx hb hr (fun t ht hW => ⟨⟨(jz, je), rfl, (by dsimp only; omega), by rw [ht]; exact hP.sub [1, 2, 3, 0] rfl, hDA (hD.sub [1, 2, 3, 0] (by decide +kernel) rfl)⟩, hS.F ht⟩) hS.2.2 dX4_goRound_66
        · obtain ⟨jj, hjj, rfl⟩ := hxj.resolve_left c_8
          refine lv_aload_n hx hb dX4_goRound_34 rfl (lv_at hl 3 rfl) ?_
          refine va_get (D := D) (ci := 4) (v := .ref e3) (C := RX4) (T := TX4) (N := 4) hx hb hts iw_X4_goRound_4 hown hC.1 hP 1 rfl rfl 3 (by decide +kernel) (hts (.fieldLink RX4 22 "FairWheel$Risk" "round" "[I") (by decide +kernel)) (fun _ h9 => h9) rfl dX4_goRound_35 ?_
          refine lv_iload hx hb dX4_goRound_38 (lv_at hl 0 rfl) ?_
          refine lv_iload_n hx hb dX4_goRound_40 rfl (lv_at hl 1 rfl) ?_
          refine ka_iast hx hb hC.1 hP hD hS 0 1 rfl rfl ji rfl (by omega) (by decide +kernel) dX4_goRound_41 (fun H locs hP hD hS => ?_)
          have hP : va_P D vwCl [(e3, .inl (ca 1, 6, .inl (upd je ji (nI jj)))), (h0, .inr (4, [.ref e1, .ref e2, .int (nI jz), .ref e3])), (e1, .inl (ca 1, 6, .inl fe1)), (e2, .inl (ca 1, 6, .inl fe2))] H := hP
          have hD : va_D A [(e3, .inl (ca 1, 6, .inl (upd je ji (nI jj)))), (h0, .inr (4, [.ref e1, .ref e2, .int (nI jz), .ref e3])), (e1, .inl (ca 1, 6, .inl fe1)), (e2, .inl (ca 1, 6, .inl fe2))] := hD
          refine lv_aload_n hx hb dX4_goRound_42 rfl (lv_at hl 3 rfl) ?_
          refine lv_iload hx hb dX4_goRound_43 (lv_at hl 0 rfl) ?_
          refine lv_iconst (v := 1) hx hb dX4_goRound_45 (by decide +kernel) ?_
          refine lv_iadd hx hb dX4_goRound_46 ?_
          refine nt_i (nI (ji + 1)) (nI_add ji 1) ?_
          refine va_put (D := D) (ci := 4) (v := .int (nI (ji + 1))) (ty := .int) (C := RX4) (T := TX4) (N := 4) hx hb hts iw_X4_goRound_4 tyX4 tyX4_ok nmX4 hown hC.1 hP hD hS 1 rfl rfl 2 (by decide +kernel) (hts (.fieldLink RX4 18 "FairWheel$Risk" "size" "I") (by decide +kernel)) (fun _ h9 => h9) rfl (by decide +kernel) rfl rfl (Nat.le_of_ble_eq_true rfl) dX4_goRound_47 (fun H locs hP hD hS => ?_)
          have hP : va_P D vwCl [(e3, .inl (ca 1, 6, .inl (upd je ji (nI jj)))), (h0, .inr (4, [.ref e1, .ref e2, .int (nI (ji + 1)), .ref e3])), (e1, .inl (ca 1, 6, .inl fe1)), (e2, .inl (ca 1, 6, .inl fe2))] H := hP
          have hD : va_D A [(e3, .inl (ca 1, 6, .inl (upd je ji (nI jj)))), (h0, .inr (4, [.ref e1, .ref e2, .int (nI (ji + 1)), .ref e3])), (e1, .inl (ca 1, 6, .inl fe1)), (e2, .inl (ca 1, 6, .inl fe2))] := hD
          refine lv_aload_n hx hb dX4_goRound_50 rfl (lv_at hl 3 rfl) ?_
          refine lv_iload_n hx hb dX4_goRound_51 rfl (lv_at hl 1 rfl) ?_
          refine lv_iload_n hx hb dX4_goRound_52 rfl (lv_at hl 2 rfl) ?_
          refine kc_i (wr := [(e3, .inl (ca 1, 6, .inl (upd je ji (nI jj))))]) (va_runV (As := [.int (nI jj), .int jl]) (rest := []) ⟨hx, hb, hml, hown, hts⟩ (s_X4_firstBehind l D ca H.size h0 e1 e2 e3 (ji + 1) fe1 fe2 jj jl (by omega)) (cwV 2 hts gX4_goRound_X4_firstBehind rfl rfl rfl (by decide +kernel) ⟨(Nat.le_of_ble_eq_true rfl), (Nat.le_of_ble_eq_true rfl)⟩) (PC.preV (ci := 4) hC hP hD [1, 2, 3] rfl (by decide +kernel) rfl rfl) rfl rfl hl.1 rfl (lv_room (Nat.le_of_ble_eq_true rfl)) dX4_goRound_53 ⟨(Nat.le_of_ble_eq_true rfl), (Nat.le_of_ble_eq_true rfl)⟩) hP hD hS hA [1, 2, 3] [0] rfl rfl (by decide +kernel) (by decide +kernel) (fun r_9 u_11 H locs hw_10 hP hD hS => ?_)
          have hu_12 := hw_10
          have hP : va_P D vwCl [(e3, .inl (ca 1, 6, .inl (upd je ji (nI jj)))), (h0, .inr (4, [.ref e1, .ref e2, .int (nI (ji + 1)), .ref e3])), (e1, .inl (ca 1, 6, .inl fe1)), (e2, .inl (ca 1, 6, .inl fe2))] H := hP
          have hD : va_D A [(e3, .inl (ca 1, 6, .inl (upd je ji (nI jj)))), (h0, .inr (4, [.ref e1, .ref e2, .int (nI (ji + 1)), .ref e3])), (e1, .inl (ca 1, 6, .inl fe1)), (e2, .inl (ca 1, 6, .inl fe2))] := hD
          refine lv_istore_n (lv' := [(3, .int r_9), (4, .int (nI ji)), (2, .int jl), (0, .ref h0), (1, .int (nI k))]) hx hb dX4_goRound_56 rfl hl (by decide +kernel) rfl (fun ls hl => ?_)
          obtain ⟨y_13, ey_13⟩ : ∃ z : Int32, z = jl + Int32.ofInt (-1) := ⟨_, rfl⟩
          refine lv_iinc (v := y_13) (lv' := [(2, .int y_13), (3, .int r_9), (4, .int (nI ji)), (0, .ref h0), (1, .int (nI k))]) hx hb dX4_goRound_57 hl (k := 2) rfl ey_13.symm (by decide +kernel) rfl (fun ls hl => ?_)
          refine lv_iinc (v := nI (ji + 1)) (lv' := [(4, .int (nI (ji + 1))), (2, .int y_13), (3, .int r_9), (0, .ref h0), (1, .int (nI k))]) hx hb dX4_goRound_60 hl (k := 2) rfl (nI_1 _) (by decide +kernel) rfl (fun ls hl => ?_)
          refine lv_goto (tgt := 18) hx hb dX4_goRound_63 (by decide +kernel) ?_
          exact ih_5 _ _ _ ⟨(ji + 1), (ji + 1), y_13, r_9, (upd je ji (nI jj)), (by omega), (by omega), (by omega), hu_12, lv_sub hl [0, 2, 1, 3, 4] rfl, hP, hD, hS⟩
  ·
    exact W.vret hx hb hr (fun t ht hW => ⟨⟨(ks, fe3), rfl, (by dsimp only; omega), by rw [ht]; exact hP.sub [1, 2, 3, 0] rfl, hDA (hD.sub [1, 2, 3, 0] (by decide +kernel) rfl)⟩, hS.F ht⟩) hS.2.2 dX4_goRound_14
