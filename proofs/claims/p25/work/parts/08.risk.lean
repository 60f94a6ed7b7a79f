theorem dX4_fewestBehind_0 : decode cX4_fewestBehind 0 = .ok (.bipush 7, 2) := by decide +kernel
theorem dX4_fewestBehind_2 : decode cX4_fewestBehind 2 = .ok (.istore_n 2, 1) := by decide +kernel
theorem dX4_fewestBehind_3 : decode cX4_fewestBehind 3 = .ok (.iconst 0, 1) := by decide +kernel
theorem dX4_fewestBehind_4 : decode cX4_fewestBehind 4 = .ok (.istore_n 3, 1) := by decide +kernel
theorem dX4_fewestBehind_5 : decode cX4_fewestBehind 5 = .ok (.iload_n 3, 1) := by decide +kernel
theorem dX4_fewestBehind_6 : decode cX4_fewestBehind 6 = .ok (.bipush 6, 2) := by decide +kernel
theorem dX4_fewestBehind_8 : decode cX4_fewestBehind 8 = .ok (.if_icmp .ge 33, 3) := by decide +kernel
theorem dX4_fewestBehind_11 : decode cX4_fewestBehind 11 = .ok (.aload_n 0, 1) := by decide +kernel
theorem dX4_fewestBehind_12 : decode cX4_fewestBehind 12 = .ok (.getfield 9, 3) := by decide +kernel
theorem dX4_fewestBehind_15 : decode cX4_fewestBehind 15 = .ok (.iload_n 1, 1) := by decide +kernel
theorem dX4_fewestBehind_16 : decode cX4_fewestBehind 16 = .ok (.iaload, 1) := by decide +kernel
theorem dX4_fewestBehind_17 : decode cX4_fewestBehind 17 = .ok (.iconst 1, 1) := by decide +kernel
theorem dX4_fewestBehind_18 : decode cX4_fewestBehind 18 = .ok (.iload_n 3, 1) := by decide +kernel
theorem dX4_fewestBehind_19 : decode cX4_fewestBehind 19 = .ok (.ishl, 1) := by decide +kernel
theorem dX4_fewestBehind_20 : decode cX4_fewestBehind 20 = .ok (.iand, 1) := by decide +kernel
theorem dX4_fewestBehind_21 : decode cX4_fewestBehind 21 = .ok (.ifCond .eq 14, 3) := by decide +kernel
theorem dX4_fewestBehind_24 : decode cX4_fewestBehind 24 = .ok (.iload_n 2, 1) := by decide +kernel
theorem dX4_fewestBehind_25 : decode cX4_fewestBehind 25 = .ok (.aload_n 0, 1) := by decide +kernel
theorem dX4_fewestBehind_26 : decode cX4_fewestBehind 26 = .ok (.getfield 15, 3) := by decide +kernel
theorem dX4_fewestBehind_29 : decode cX4_fewestBehind 29 = .ok (.iload_n 3, 1) := by decide +kernel
theorem dX4_fewestBehind_30 : decode cX4_fewestBehind 30 = .ok (.iaload, 1) := by decide +kernel
theorem dX4_fewestBehind_31 : decode cX4_fewestBehind 31 = .ok (.invokestatic 65, 3) := by decide +kernel
theorem dX4_fewestBehind_34 : decode cX4_fewestBehind 34 = .ok (.istore_n 2, 1) := by decide +kernel
theorem dX4_fewestBehind_35 : decode cX4_fewestBehind 35 = .ok (.iinc 3 1, 3) := by decide +kernel
theorem dX4_fewestBehind_38 : decode cX4_fewestBehind 38 = .ok (.goto (-33), 3) := by decide +kernel
theorem dX4_fewestBehind_41 : decode cX4_fewestBehind 41 = .ok (.iload_n 2, 1) := by decide +kernel
theorem dX4_fewestBehind_42 : decode cX4_fewestBehind 42 = .ok (.ireturn, 1) := by decide +kernel
theorem dX4_firstBehind_0 : decode cX4_firstBehind 0 = .ok (.iconst 0, 1) := by decide +kernel
theorem dX4_firstBehind_1 : decode cX4_firstBehind 1 = .ok (.istore_n 3, 1) := by decide +kernel
theorem dX4_firstBehind_2 : decode cX4_firstBehind 2 = .ok (.iload_n 3, 1) := by decide +kernel
theorem dX4_firstBehind_3 : decode cX4_firstBehind 3 = .ok (.bipush 6, 2) := by decide +kernel
theorem dX4_firstBehind_5 : decode cX4_firstBehind 5 = .ok (.if_icmp .ge 34, 3) := by decide +kernel
theorem dX4_firstBehind_8 : decode cX4_firstBehind 8 = .ok (.aload_n 0, 1) := by decide +kernel
theorem dX4_firstBehind_9 : decode cX4_firstBehind 9 = .ok (.getfield 9, 3) := by decide +kernel
theorem dX4_firstBehind_12 : decode cX4_firstBehind 12 = .ok (.iload_n 1, 1) := by decide +kernel
theorem dX4_firstBehind_13 : decode cX4_firstBehind 13 = .ok (.iaload, 1) := by decide +kernel
theorem dX4_firstBehind_14 : decode cX4_firstBehind 14 = .ok (.iconst 1, 1) := by decide +kernel
theorem dX4_firstBehind_15 : decode cX4_firstBehind 15 = .ok (.iload_n 3, 1) := by decide +kernel
theorem dX4_firstBehind_16 : decode cX4_firstBehind 16 = .ok (.ishl, 1) := by decide +kernel
theorem dX4_firstBehind_17 : decode cX4_firstBehind 17 = .ok (.iand, 1) := by decide +kernel
theorem dX4_firstBehind_18 : decode cX4_firstBehind 18 = .ok (.ifCond .eq 15, 3) := by decide +kernel
theorem dX4_firstBehind_21 : decode cX4_firstBehind 21 = .ok (.aload_n 0, 1) := by decide +kernel
theorem dX4_firstBehind_22 : decode cX4_firstBehind 22 = .ok (.getfield 15, 3) := by decide +kernel
theorem dX4_firstBehind_25 : decode cX4_firstBehind 25 = .ok (.iload_n 3, 1) := by decide +kernel
theorem dX4_firstBehind_26 : decode cX4_firstBehind 26 = .ok (.iaload, 1) := by decide +kernel
theorem dX4_firstBehind_27 : decode cX4_firstBehind 27 = .ok (.iload_n 2, 1) := by decide +kernel
theorem dX4_firstBehind_28 : decode cX4_firstBehind 28 = .ok (.if_icmp .ne 5, 3) := by decide +kernel
theorem dX4_firstBehind_31 : decode cX4_firstBehind 31 = .ok (.iload_n 3, 1) := by decide +kernel
theorem dX4_firstBehind_32 : decode cX4_firstBehind 32 = .ok (.ireturn, 1) := by decide +kernel
theorem dX4_firstBehind_33 : decode cX4_firstBehind 33 = .ok (.iinc 3 1, 3) := by decide +kernel
theorem dX4_firstBehind_36 : decode cX4_firstBehind 36 = .ok (.goto (-34), 3) := by decide +kernel
theorem dX4_firstBehind_39 : decode cX4_firstBehind 39 = .ok (.iconst (-1), 1) := by decide +kernel
theorem dX4_firstBehind_40 : decode cX4_firstBehind 40 = .ok (.ireturn, 1) := by decide +kernel
theorem dX4_noteBehind_0 : decode cX4_noteBehind 0 = .ok (.iconst 0, 1) := by decide +kernel
theorem dX4_noteBehind_1 : decode cX4_noteBehind 1 = .ok (.istore_n 3, 1) := by decide +kernel
theorem dX4_noteBehind_2 : decode cX4_noteBehind 2 = .ok (.iload_n 3, 1) := by decide +kernel
theorem dX4_noteBehind_3 : decode cX4_noteBehind 3 = .ok (.bipush 6, 2) := by decide +kernel
theorem dX4_noteBehind_5 : decode cX4_noteBehind 5 = .ok (.if_icmp .ge 29, 3) := by decide +kernel
theorem dX4_noteBehind_8 : decode cX4_noteBehind 8 = .ok (.iload_n 2, 1) := by decide +kernel
theorem dX4_noteBehind_9 : decode cX4_noteBehind 9 = .ok (.iconst 1, 1) := by decide +kernel
theorem dX4_noteBehind_10 : decode cX4_noteBehind 10 = .ok (.iload_n 3, 1) := by decide +kernel
theorem dX4_noteBehind_11 : decode cX4_noteBehind 11 = .ok (.ishl, 1) := by decide +kernel
theorem dX4_noteBehind_12 : decode cX4_noteBehind 12 = .ok (.iand, 1) := by decide +kernel
theorem dX4_noteBehind_13 : decode cX4_noteBehind 13 = .ok (.ifCond .eq 15, 3) := by decide +kernel
theorem dX4_noteBehind_16 : decode cX4_noteBehind 16 = .ok (.aload_n 0, 1) := by decide +kernel
theorem dX4_noteBehind_17 : decode cX4_noteBehind 17 = .ok (.getfield 9, 3) := by decide +kernel
theorem dX4_noteBehind_20 : decode cX4_noteBehind 20 = .ok (.iload_n 3, 1) := by decide +kernel
theorem dX4_noteBehind_21 : decode cX4_noteBehind 21 = .ok (.dup2, 1) := by decide +kernel
theorem dX4_noteBehind_22 : decode cX4_noteBehind 22 = .ok (.iaload, 1) := by decide +kernel
theorem dX4_noteBehind_23 : decode cX4_noteBehind 23 = .ok (.iconst 1, 1) := by decide +kernel
theorem dX4_noteBehind_24 : decode cX4_noteBehind 24 = .ok (.iload_n 1, 1) := by decide +kernel
theorem dX4_noteBehind_25 : decode cX4_noteBehind 25 = .ok (.ishl, 1) := by decide +kernel
theorem dX4_noteBehind_26 : decode cX4_noteBehind 26 = .ok (.ior, 1) := by decide +kernel
theorem dX4_noteBehind_27 : decode cX4_noteBehind 27 = .ok (.iastore, 1) := by decide +kernel
theorem dX4_noteBehind_28 : decode cX4_noteBehind 28 = .ok (.iinc 3 1, 3) := by decide +kernel
theorem dX4_noteBehind_31 : decode cX4_noteBehind 31 = .ok (.goto (-29), 3) := by decide +kernel
theorem dX4_noteBehind_34 : decode cX4_noteBehind 34 = .ok (.return_, 1) := by decide +kernel
set_option maxRecDepth 20000 in
theorem ggX4_measure_X4_fewestBehind : GoodIn wsX4_measure wsX4_fewestBehind := goodIn_r _ [10, 11, 1, 2, 3, 4, 5, 12, 13, 14, 15] (by decide +kernel) (by decide +kernel)
set_option maxRecDepth 20000 in
theorem gX4_measure_X4_fewestBehind : GoodIn wsX4_measure (wsV RX4 61 RX4 yX4_fewestBehind wsX4_fewestBehind) := goodIn_app (goodIn_of _ (by decide +kernel)) ggX4_measure_X4_fewestBehind
theorem dX4_measure_0 : decode cX4_measure 0 = .ok (.iconst 0, 1) := by decide +kernel
theorem dX4_measure_1 : decode cX4_measure 1 = .ok (.istore_n 2, 1) := by decide +kernel
theorem dX4_measure_2 : decode cX4_measure 2 = .ok (.iload_n 2, 1) := by decide +kernel
theorem dX4_measure_3 : decode cX4_measure 3 = .ok (.bipush 6, 2) := by decide +kernel
theorem dX4_measure_5 : decode cX4_measure 5 = .ok (.if_icmp .ge 26, 3) := by decide +kernel
theorem dX4_measure_8 : decode cX4_measure 8 = .ok (.aload_n 0, 1) := by decide +kernel
theorem dX4_measure_9 : decode cX4_measure 9 = .ok (.getfield 15, 3) := by decide +kernel
theorem dX4_measure_12 : decode cX4_measure 12 = .ok (.iload_n 2, 1) := by decide +kernel
theorem dX4_measure_13 : decode cX4_measure 13 = .ok (.iload_n 2, 1) := by decide +kernel
theorem dX4_measure_14 : decode cX4_measure 14 = .ok (.iload_n 1, 1) := by decide +kernel
theorem dX4_measure_15 : decode cX4_measure 15 = .ok (.if_icmp .ne 7, 3) := by decide +kernel
theorem dX4_measure_18 : decode cX4_measure 18 = .ok (.iconst 0, 1) := by decide +kernel
theorem dX4_measure_19 : decode cX4_measure 19 = .ok (.goto 5, 3) := by decide +kernel
theorem dX4_measure_22 : decode cX4_measure 22 = .ok (.bipush 7, 2) := by decide +kernel
theorem dX4_measure_24 : decode cX4_measure 24 = .ok (.iastore, 1) := by decide +kernel
theorem dX4_measure_25 : decode cX4_measure 25 = .ok (.iinc 2 1, 3) := by decide +kernel
theorem dX4_measure_28 : decode cX4_measure 28 = .ok (.goto (-26), 3) := by decide +kernel
theorem dX4_measure_31 : decode cX4_measure 31 = .ok (.iconst 0, 1) := by decide +kernel
theorem dX4_measure_32 : decode cX4_measure 32 = .ok (.istore_n 2, 1) := by decide +kernel
theorem dX4_measure_33 : decode cX4_measure 33 = .ok (.iload_n 2, 1) := by decide +kernel
theorem dX4_measure_34 : decode cX4_measure 34 = .ok (.bipush 6, 2) := by decide +kernel
theorem dX4_measure_36 : decode cX4_measure 36 = .ok (.if_icmp .ge 45, 3) := by decide +kernel
theorem dX4_measure_39 : decode cX4_measure 39 = .ok (.iconst 0, 1) := by decide +kernel
theorem dX4_measure_40 : decode cX4_measure 40 = .ok (.istore_n 3, 1) := by decide +kernel
theorem dX4_measure_41 : decode cX4_measure 41 = .ok (.iload_n 3, 1) := by decide +kernel
theorem dX4_measure_42 : decode cX4_measure 42 = .ok (.bipush 6, 2) := by decide +kernel
theorem dX4_measure_44 : decode cX4_measure 44 = .ok (.if_icmp .ge 31, 3) := by decide +kernel
theorem dX4_measure_47 : decode cX4_measure 47 = .ok (.aload_n 0, 1) := by decide +kernel
theorem dX4_measure_48 : decode cX4_measure 48 = .ok (.getfield 15, 3) := by decide +kernel
theorem dX4_measure_51 : decode cX4_measure 51 = .ok (.iload_n 3, 1) := by decide +kernel
theorem dX4_measure_52 : decode cX4_measure 52 = .ok (.aload_n 0, 1) := by decide +kernel
theorem dX4_measure_53 : decode cX4_measure 53 = .ok (.getfield 15, 3) := by decide +kernel
theorem dX4_measure_56 : decode cX4_measure 56 = .ok (.iload_n 3, 1) := by decide +kernel
theorem dX4_measure_57 : decode cX4_measure 57 = .ok (.iaload, 1) := by decide +kernel
theorem dX4_measure_58 : decode cX4_measure 58 = .ok (.aload_n 0, 1) := by decide +kernel
theorem dX4_measure_59 : decode cX4_measure 59 = .ok (.iload_n 3, 1) := by decide +kernel
theorem dX4_measure_60 : decode cX4_measure 60 = .ok (.invokevirtual 61, 3) := by decide +kernel
theorem dX4_measure_63 : decode cX4_measure 63 = .ok (.iconst 1, 1) := by decide +kernel
theorem dX4_measure_64 : decode cX4_measure 64 = .ok (.iadd, 1) := by decide +kernel
theorem dX4_measure_65 : decode cX4_measure 65 = .ok (.invokestatic 65, 3) := by decide +kernel
theorem dX4_measure_68 : decode cX4_measure 68 = .ok (.iastore, 1) := by decide +kernel
theorem dX4_measure_69 : decode cX4_measure 69 = .ok (.iinc 3 1, 3) := by decide +kernel
theorem dX4_measure_72 : decode cX4_measure 72 = .ok (.goto (-31), 3) := by decide +kernel
theorem dX4_measure_75 : decode cX4_measure 75 = .ok (.iinc 2 1, 3) := by decide +kernel
theorem dX4_measure_78 : decode cX4_measure 78 = .ok (.goto (-45), 3) := by decide +kernel
theorem dX4_measure_81 : decode cX4_measure 81 = .ok (.return_, 1) := by decide +kernel
theorem iw_X4_fewestBehind_4 : ∀ w ∈ u_ws RX4 TX4 4, w ∈ wsX4_fewestBehind := by decide +kernel
set_option maxHeartbeats 4000000 in
set_option maxRecDepth 100000 in
theorem s_X4_fewestBehind (l : Launch) (D : va_G) (ca : Nat → ClassId) (sz : Nat) (h0 : Nat) (e1 : Nat) (e2 : Nat) (e3 : Nat) (ks : Nat) (fe1 : Nat → Int32) (fe2 : Nat → Int32) (k : Nat) (hk : k < 6) : Met l yX4_fewestBehind wsX4_fewestBehind ({ frames := 1, cells := 0, slots := 0, locals := 13 }) (PC [.ref h0, .int (nI k)] sz D ca [(h0, .inr (4, [.ref e1, .ref e2, .int (nI ks), .ref e3])), (e1, .inl (ca 1, 6, .inl fe1)), (e2, .inl (ca 1, 6, .inl fe2))]) (QI (fun (r : Int32) (u : Unit) => True) (fun (_ : Unit) => [(h0, .inr (4, [.ref e1, .ref e2, .int (nI ks), .ref e3])), (e1, .inl (ca 1, 6, .inl fe1)), (e2, .inl (ca 1, 6, .inl fe2))]) [(h0, .inr (4, [.ref e1, .ref e2, .int (nI ks), .ref e3])), (e1, .inl (ca 1, 6, .inl fe1)), (e2, .inl (ca 1, 6, .inl fe2))] sz D) 0 0 (va_A [(h0, .inr (4, [.ref e1, .ref e2, .int (nI ks), .ref e3])), (e1, .inl (ca 1, 6, .inl fe1)), (e2, .inl (ca 1, 6, .inl fe2))] sz) := by
  refine Met.ofW (cc := cX4_fewestBehind) (maxL := 4) (ret := (some .int)) (by decide +kernel) rfl ?_
  intro p e s m args below meth c s₁ B hml hv
  obtain ⟨rfl, hsz, hP, hC, hD0⟩ := hv
  have hx := B.exec
  have hb := B.bytes
  have hr := B.returns
  have hts := atoms_spec (ws := wsX4_fewestBehind) B.pre
  have hown : s.vm.findClass RX4 = some m.cls := findClass_of_methodNamed B.named
  have hlocks := B.notSynchronized
  subst hsz
  have hD := hD0.self (sz := s.heap.size)
  dsimp only [QV, QI, QL, BQ]
  generalize hAe : va_A [(h0, .inr (4, [.ref e1, .ref e2, .int (nI ks), .ref e3])), (e1, .inl (ca 1, 6, .inl fe1)), (e2, .inl (ca 1, 6, .inl fe2))] s.heap.size = A at hD ⊢
  have hA : ∀ q : Nat, s.heap.size ≤ q → A q := fun q h => by rw [← hAe]; exact Or.inr h
  have hDA : ∀ {w : va_W}, va_D A w → va_D (va_A [(h0, .inr (4, [.ref e1, .ref e2, .int (nI ks), .ref e3])), (e1, .inl (ca 1, 6, .inl fe1)), (e2, .inl (ca 1, 6, .inl fe2))] s.heap.size) w := fun h => by rw [hAe]; exact h
  have hS : va_S A s.heap s.heap [] := va_S.rf
  have hP : va_P D vwCl [(h0, .inr (4, [.ref e1, .ref e2, .int (nI ks), .ref e3])), (e1, .inl (ca 1, 6, .inl fe1)), (e2, .inl (ca 1, 6, .inl fe2))] s.heap := hP
  have hl := lv_entry ([.ref h0, .int (nI k)]) (n := 4) (Nat.le_of_ble_eq_true rfl)
  rw [lg_entry_eq]
  generalize (lg_sl ([.ref h0, .int (nI k)]) ++ List.replicate (4 - (lg_sl ([.ref h0, .int (nI k)])).length) Slot.unset).toArray = ls at hl ⊢
  have hl : lv_has ls 4 [(0, .ref h0), (1, .int (nI k))] := hl
  refine lv_bipush (v := 7) hx hb dX4_fewestBehind_0 (by decide +kernel) ?_
  refine lv_istore_n (lv' := [(2, .int 7), (0, .ref h0), (1, .int (nI k))]) hx hb dX4_fewestBehind_2 rfl hl (by decide +kernel) rfl (fun ls hl => ?_)
  refine lv_iconst (v := 0) hx hb dX4_fewestBehind_3 (by decide +kernel) ?_
  refine lv_istore_n (lv' := [(3, .int 0), (2, .int 7), (0, .ref h0), (1, .int (nI k))]) hx hb dX4_fewestBehind_4 rfl hl (by decide +kernel) rfl (fun ls hl => ?_)
  refine lp_ind (I := fun (n : Nat) H locs ls => ∃ (ji : Nat) (jm : Int32), ji ≤ 6 ∧ ji + n = 7 ∧ lv_has ls 4 [(3, .int (nI ji)), (2, .int jm), (0, .ref h0), (1, .int (nI k))] ∧ va_P D vwCl [(h0, .inr (4, [.ref e1, .ref e2, .int (nI ks), .ref e3])), (e1, .inl (ca 1, 6, .inl fe1)), (e2, .inl (ca 1, 6, .inl fe2))] H ∧ va_D A [(h0, .inr (4, [.ref e1, .ref e2, .int (nI ks), .ref e3])), (e1, .inl (ca 1, 6, .inl fe1)), (e2, .inl (ca 1, 6, .inl fe2))] ∧ va_S A s.heap H locs) (Wf := fun H locs ls => W p l e _ s m _ below meth c H locs _ _ _ (F0 m 5 ls [])) (7) ⟨0, 7, (by omega), (by omega), hl, hP, hD, hS⟩ ?_ ?_
  · intro H locs ls hI
    obtain ⟨ji, jm, hji, hmji, -⟩ := hI
    omega
  intro n ih_1 H locs ls hI
  obtain ⟨ji, jm, hji, hmji, hl, hP, hD, hS⟩ := hI
  refine lv_iload_n hx hb dX4_fewestBehind_5 rfl (lv_at hl 0 rfl) ?_
  refine lv_bipush (v := 6) hx hb dX4_fewestBehind_6 (by decide +kernel) ?_
  refine lv_icmp_ge (tgt := 41) hx hb dX4_fewestBehind_8 (by decide +kernel) (fun c_2 => ?_) (fun c_2 => ?_)
  · have nc_2 : 6 ≤ ji := (nI_leI (a := 6) (b := ji) (by omega) (by omega)).mp c_2
    refine lv_iload_n hx hb dX4_fewestBehind_41 rfl (lv_at hl 1 rfl) ?_
    exact W.iret (v := jm) hx hb hr (fun t ht hW => ⟨⟨jm, (), rfl, trivial, by rw [ht]; exact hP.sub [0, 1, 2] rfl, hDA (hD.sub [0, 1, 2] (by decide +kernel) rfl)⟩, hS.F ht⟩) hS.2.2 dX4_fewestBehind_42
  · have nc_2 : ¬ (6 ≤ ji) := fun h => c_2 ((nI_leI (a := 6) (b := ji) (by omega) (by omega)).mpr h)
    refine lv_aload_n hx hb dX4_fewestBehind_11 rfl (lv_at hl 2 rfl) ?_
    refine va_get (D := D) (ci := 4) (v := .ref e1) (C := RX4) (T := TX4) (N := 4) hx hb hts iw_X4_fewestBehind_4 hown hC.1 hP 0 rfl rfl 0 (by decide +kernel) (hts (.fieldLink RX4 9 "FairWheel$Risk" "behind" "[I") (by decide +kernel)) (fun _ h9 => h9) rfl dX4_fewestBehind_12 ?_
    refine lv_iload_n hx hb dX4_fewestBehind_15 rfl (lv_at hl 3 rfl) ?_
    refine ka_iald hx hb hC.1 hP 1 1 rfl rfl k rfl (by omega) (by decide +kernel) dX4_fewestBehind_16 ?_
    refine lv_topi (fun y_3 ey_3 => ?_)
    refine lv_iconst (v := 1) hx hb dX4_fewestBehind_17 (by decide +kernel) ?_
    refine lv_iload_n hx hb dX4_fewestBehind_18 rfl (lv_at hl 0 rfl) ?_
    refine lv_ishl hx hb dX4_fewestBehind_19 ?_
    refine lv_topi (fun y_4 ey_4 => ?_)
    refine lv_iand hx hb dX4_fewestBehind_20 ?_
    refine lv_topi (fun y_5 ey_5 => ?_)
    refine lv_if_eq (tgt := 35) hx hb dX4_fewestBehind_21 (by decide +kernel) (fun c_6 => ?_) (fun c_6 => ?_)
    · refine lv_iinc (v := nI (ji + 1)) (lv' := [(3, .int (nI (ji + 1))), (2, .int jm), (0, .ref h0), (1, .int (nI k))]) hx hb dX4_fewestBehind_35 hl (k := 0) rfl (nI_1 _) (by decide +kernel) rfl (fun ls hl => ?_)
      refine lv_goto (tgt := 5) hx hb dX4_fewestBehind_38 (by decide +kernel) ?_
      exact ih_1 _ _ _ ⟨(ji + 1), jm, (by omega), (by omega), lv_sub hl [0, 1, 2, 3] rfl, hP, hD, hS⟩
    · refine lv_iload_n hx hb dX4_fewestBehind_24 rfl (lv_at hl 1 rfl) ?_
      refine lv_aload_n hx hb dX4_fewestBehind_25 rfl (lv_at hl 2 rfl) ?_
      refine va_get (D := D) (ci := 4) (v := .ref e2) (C := RX4) (T := TX4) (N := 4) hx hb hts iw_X4_fewestBehind_4 hown hC.1 hP 0 rfl rfl 1 (by decide +kernel) (hts (.fieldLink RX4 15 "FairWheel$Risk" "steps" "[I") (by decide +kernel)) (fun _ h9 => h9) rfl dX4_fewestBehind_26 ?_
      refine lv_iload_n hx hb dX4_fewestBehind_29 rfl (lv_at hl 0 rfl) ?_
      refine ka_iald hx hb hC.1 hP 2 1 rfl rfl ji rfl (by omega) (by decide +kernel) dX4_fewestBehind_30 ?_
      refine lv_topi (fun y_7 ey_7 => ?_)
      refine va_mmin hx hb (hml.trans hl.1.symm) hown (hts (.methodLink RX4 65 Lib.Math.min.name) (by decide +kernel)) (hts (.static Lib.Math.min.name) (by decide +kernel)) (hts (.initialized "java/lang/Math") (by decide +kernel)) (hts (.code Lib.Math.min.name Lib.Math.min.code 2 (some .int)) (by decide +kernel)) (Nat.le_of_ble_eq_true rfl) (Nat.le_of_ble_eq_true rfl) (Nat.le_of_ble_eq_true rfl) (Nat.le_of_ble_eq_true rfl) dX4_fewestBehind_31 ?_
      refine lv_topi (fun y_8 ey_8 => ?_)
      refine lv_istore_n (lv' := [(2, .int y_8), (3, .int (nI ji)), (0, .ref h0), (1, .int (nI k))]) hx hb dX4_fewestBehind_34 rfl hl (by decide +kernel) rfl (fun ls hl => ?_)
      refine lv_iinc (v := nI (ji + 1)) (lv' := [(3, .int (nI (ji + 1))), (2, .int y_8), (0, .ref h0), (1, .int (nI k))]) hx hb dX4_fewestBehind_35 hl (k := 1) rfl (nI_1 _) (by decide +kernel) rfl (fun ls hl => ?_)
      refine lv_goto (tgt := 5) hx hb dX4_fewestBehind_38 (by decide +kernel) ?_
      exact ih_1 _ _ _ ⟨(ji + 1), y_8, (by omega), (by omega), lv_sub hl [0, 1, 2, 3] rfl, hP, hD, hS⟩
theorem iw_X4_firstBehind_4 : ∀ w ∈ u_ws RX4 TX4 4, w ∈ wsX4_firstBehind := by decide +kernel
set_option maxHeartbeats 4000000 in
set_option maxRecDepth 100000 in
theorem s_X4_firstBehind (l : Launch) (D : va_G) (ca : Nat → ClassId) (sz : Nat) (h0 : Nat) (e1 : Nat) (e2 : Nat) (e3 : Nat) (ks : Nat) (fe1 : Nat → Int32) (fe2 : Nat → Int32) (k : Nat) (x2 : Int32) (hk : k < 6) : Met l yX4_firstBehind wsX4_firstBehind ({ frames := 0, cells := 0, slots := 0, locals := 0 }) (PC [.ref h0, .int (nI k), .int x2] sz D ca [(h0, .inr (4, [.ref e1, .ref e2, .int (nI ks), .ref e3])), (e1, .inl (ca 1, 6, .inl fe1)), (e2, .inl (ca 1, 6, .inl fe2))]) (QI (fun (r : Int32) (u : Unit) => r = -1 ∨ ∃ j : Nat, j < 6 ∧ r = nI j) (fun (_ : Unit) => [(h0, .inr (4, [.ref e1, .ref e2, .int (nI ks), .ref e3])), (e1, .inl (ca 1, 6, .inl fe1)), (e2, .inl (ca 1, 6, .inl fe2))]) [(h0, .inr (4, [.ref e1, .ref e2, .int (nI ks), .ref e3])), (e1, .inl (ca 1, 6, .inl fe1)), (e2, .inl (ca 1, 6, .inl fe2))] sz D) 0 0 (va_A [(h0, .inr (4, [.ref e1, .ref e2, .int (nI ks), .ref e3])), (e1, .inl (ca 1, 6, .inl fe1)), (e2, .inl (ca 1, 6, .inl fe2))] sz) := by
  refine Met.ofW (cc := cX4_firstBehind) (maxL := 4) (ret := (some .int)) (by decide +kernel) rfl ?_
  intro p e s m args below meth c s₁ B hml hv
  obtain ⟨rfl, hsz, hP, hC, hD0⟩ := hv
  have hx := B.exec
  have hb := B.bytes
  have hr := B.returns
  have hts := atoms_spec (ws := wsX4_firstBehind) B.pre
  have hown : s.vm.findClass RX4 = some m.cls := findClass_of_methodNamed B.named
  have hlocks := B.notSynchronized
  subst hsz
  have hD := hD0.self (sz := s.heap.size)
  dsimp only [QV, QI, QL, BQ]
  generalize hAe : va_A [(h0, .inr (4, [.ref e1, .ref e2, .int (nI ks), .ref e3])), (e1, .inl (ca 1, 6, .inl fe1)), (e2, .inl (ca 1, 6, .inl fe2))] s.heap.size = A at hD ⊢
  have hA : ∀ q : Nat, s.heap.size ≤ q → A q := fun q h => by rw [← hAe]; exact Or.inr h
  have hDA : ∀ {w : va_W}, va_D A w → va_D (va_A [(h0, .inr (4, [.ref e1, .ref e2, .int (nI ks), .ref e3])), (e1, .inl (ca 1, 6, .inl fe1)), (e2, .inl (ca 1, 6, .inl fe2))] s.heap.size) w := fun h => by rw [hAe]; exact h
  have hS : va_S A s.heap s.heap [] := va_S.rf
  have hP : va_P D vwCl [(h0, .inr (4, [.ref e1, .ref e2, .int (nI ks), .ref e3])), (e1, .inl (ca 1, 6, .inl fe1)), (e2, .inl (ca 1, 6, .inl fe2))] s.heap := hP
  have hl := lv_entry ([.ref h0, .int (nI k), .int x2]) (n := 4) (Nat.le_of_ble_eq_true rfl)
  rw [lg_entry_eq]
  generalize (lg_sl ([.ref h0, .int (nI k), .int x2]) ++ List.replicate (4 - (lg_sl ([.ref h0, .int (nI k), .int x2])).length) Slot.unset).toArray = ls at hl ⊢
  have hl : lv_has ls 4 [(0, .ref h0), (1, .int (nI k)), (2, .int x2)] := hl
  refine lv_iconst (v := 0) hx hb dX4_firstBehind_0 (by decide +kernel) ?_
  refine lv_istore_n (lv' := [(3, .int 0), (0, .ref h0), (1, .int (nI k)), (2, .int x2)]) hx hb dX4_firstBehind_1 rfl hl (by decide +kernel) rfl (fun ls hl => ?_)
  refine lp_ind (I := fun (n : Nat) H locs ls => ∃ (ji : Nat), ji ≤ 6 ∧ ji + n = 7 ∧ lv_has ls 4 [(3, .int (nI ji)), (0, .ref h0), (1, .int (nI k)), (2, .int x2)] ∧ va_P D vwCl [(h0, .inr (4, [.ref e1, .ref e2, .int (nI ks), .ref e3])), (e1, .inl (ca 1, 6, .inl fe1)), (e2, .inl (ca 1, 6, .inl fe2))] H ∧ va_D A [(h0, .inr (4, [.ref e1, .ref e2, .int (nI ks), .ref e3])), (e1, .inl (ca 1, 6, .inl fe1)), (e2, .inl (ca 1, 6, .inl fe2))] ∧ va_S A s.heap H locs) (Wf := fun H locs ls => W p l e _ s m _ below meth c H locs _ _ _ (F0 m 2 ls [])) (7) ⟨0, (by omega), (by omega), hl, hP, hD, hS⟩ ?_ ?_
  · intro H locs ls hI
    obtain ⟨ji, hji, hmji, -⟩ := hI
    omega
  intro n ih_1 H locs ls hI
  obtain ⟨ji, hji, hmji, hl, hP, hD, hS⟩ := hI
  refine lv_iload_n hx hb dX4_firstBehind_2 rfl (lv_at hl 0 rfl) ?_
  refine lv_bipush (v := 6) hx hb dX4_firstBehind_3 (by decide +kernel) ?_
  refine lv_icmp_ge (tgt := 39) hx hb dX4_firstBehind_5 (by decide +kernel) (fun c_2 => ?_) (fun c_2 => ?_)
  · have nc_2 : 6 ≤ ji := (nI_leI (a := 6) (b := ji) (by omega) (by omega)).mp c_2
    refine lv_iconst (v := (-1)) hx hb dX4_firstBehind_39 (by decide +kernel) ?_
    exact W.iret (v := (-1)) hx hb hr (fun t ht hW => ⟨⟨(-1), (), rfl, (Or.inl rfl), by rw [ht]; exact hP.sub [0, 1, 2] rfl, hDA (hD.sub [0, 1, 2] (by decide +kernel) rfl)⟩, hS.F ht⟩) hS.2.2 dX4_firstBehind_40
  · have nc_2 : ¬ (6 ≤ ji) := fun h => c_2 ((nI_leI (a := 6) (b := ji) (by omega) (by omega)).mpr h)
    refine lv_aload_n hx hb dX4_firstBehind_8 rfl (lv_at hl 1 rfl) ?_
    refine va_get (D := D) (ci := 4) (v := .ref e1) (C := RX4) (T := TX4) (N := 4) hx hb hts iw_X4_firstBehind_4 hown hC.1 hP 0 rfl rfl 0 (by decide +kernel) (hts (.fieldLink RX4 9 "FairWheel$Risk" "behind" "[I") (by decide +kernel)) (fun _ h9 => h9) rfl dX4_firstBehind_9 ?_
    refine lv_iload_n hx hb dX4_firstBehind_12 rfl (lv_at hl 2 rfl) ?_
    refine ka_iald hx hb hC.1 hP 1 1 rfl rfl k rfl (by omega) (by decide +kernel) dX4_firstBehind_13 ?_
    refine lv_topi (fun y_3 ey_3 => ?_)
    refine lv_iconst (v := 1) hx hb dX4_firstBehind_14 (by decide +kernel) ?_
    refine lv_iload_n hx hb dX4_firstBehind_15 rfl (lv_at hl 0 rfl) ?_
    refine lv_ishl hx hb dX4_firstBehind_16 ?_
    refine lv_topi (fun y_4 ey_4 => ?_)
    refine lv_iand hx hb dX4_firstBehind_17 ?_
    refine lv_topi (fun y_5 ey_5 => ?_)
    refine lv_if_eq (tgt := 33) hx hb dX4_firstBehind_18 (by decide +kernel) (fun c_6 => ?_) (fun c_6 => ?_)
    · refine lv_iinc (v := nI (ji + 1)) (lv' := [(3, .int (nI (ji + 1))), (0, .ref h0), (1, .int (nI k)), (2, .int x2)]) hx hb dX4_firstBehind_33 hl (k := 0) rfl (nI_1 _) (by decide +kernel) rfl (fun ls hl => ?_)
      refine lv_goto (tgt := 2) hx hb dX4_firstBehind_36 (by decide +kernel) ?_
      exact ih_1 _ _ _ ⟨(ji + 1), (by omega), (by omega), lv_sub hl [0, 1, 2, 3] rfl, hP, hD, hS⟩
    · refine lv_aload_n hx hb dX4_firstBehind_21 rfl (lv_at hl 1 rfl) ?_
      refine va_get (D := D) (ci := 4) (v := .ref e2) (C := RX4) (T := TX4) (N := 4) hx hb hts iw_X4_firstBehind_4 hown hC.1 hP 0 rfl rfl 1 (by decide +kernel) (hts (.fieldLink RX4 15 "FairWheel$Risk" "steps" "[I") (by decide +kernel)) (fun _ h9 => h9) rfl dX4_firstBehind_22 ?_
      refine lv_iload_n hx hb dX4_firstBehind_25 rfl (lv_at hl 0 rfl) ?_
      refine ka_iald hx hb hC.1 hP 2 1 rfl rfl ji rfl (by omega) (by decide +kernel) dX4_firstBehind_26 ?_
      refine lv_topi (fun y_7 ey_7 => ?_)
      refine lv_iload_n hx hb dX4_firstBehind_27 rfl (lv_at hl 3 rfl) ?_
      refine lv_icmp_ne (tgt := 33) hx hb dX4_firstBehind_28 (by decide +kernel) (fun c_8 => ?_) (fun c_8 => ?_)
      · refine lv_iinc (v := nI (ji + 1)) (lv' := [(3, .int (nI (ji + 1))), (0, .ref h0), (1, .int (nI k)), (2, .int x2)]) hx hb dX4_firstBehind_33 hl (k := 0) rfl (nI_1 _) (by decide +kernel) rfl (fun ls hl => ?_)
        refine lv_goto (tgt := 2) hx hb dX4_firstBehind_36 (by decide +kernel) ?_
        exact ih_1 _ _ _ ⟨(ji + 1), (by omega), (by omega), lv_sub hl [0, 1, 2, 3] rfl, hP, hD, hS⟩
      · refine lv_iload_n hx hb dX4_firstBehind_31 rfl (lv_at hl 0 rfl) ?_
        exact W.iret (v := nI ji) hx hb hr (fun t ht hW => ⟨⟨nI ji, (), rfl, (Or.inr ⟨ji, by omega, rfl⟩), by rw [ht]; exact hP.sub [0, 1, 2] rfl, hDA (hD.sub [0, 1, 2] (by decide +kernel) rfl)⟩, hS.F ht⟩) hS.2.2 dX4_firstBehind_32
theorem iw_X4_noteBehind_4 : ∀ w ∈ u_ws RX4 TX4 4, w ∈ wsX4_noteBehind := by decide +kernel
set_option maxHeartbeats 4000000 in
set_option maxRecDepth 100000 in
theorem s_X4_noteBehind (l : Launch) (D : va_G) (ca : Nat → ClassId) (sz : Nat) (h0 : Nat) (e1 : Nat) (e2 : Nat) (e3 : Nat) (ks : Nat) (fe1 : Nat → Int32) (x1 : Int32) (x2 : Int32) : Met l yX4_noteBehind wsX4_noteBehind ({ frames := 0, cells := 0, slots := 0, locals := 0 }) (PC [.ref h0, .int x1, .int x2] sz D ca [(h0, .inr (4, [.ref e1, .ref e2, .int (nI ks), .ref e3])), (e1, .inl (ca 1, 6, .inl fe1))]) (QV (fun (u : (Nat → Int32)) => True) (fun (u : (Nat → Int32)) => [(h0, .inr (4, [.ref e1, .ref e2, .int (nI ks), .ref e3])), (e1, .inl (ca 1, 6, .inl u))]) [(h0, .inr (4, [.ref e1, .ref e2, .int (nI ks), .ref e3])), (e1, .inl (ca 1, 6, .inl fe1))] sz D) 0 0 (va_A [(h0, .inr (4, [.ref e1, .ref e2, .int (nI ks), .ref e3])), (e1, .inl (ca 1, 6, .inl fe1))] sz) := by
  refine Met.ofW (cc := cX4_noteBehind) (maxL := 4) (ret := none) (by decide +kernel) rfl ?_
  intro p e s m args below meth c s₁ B hml hv
  obtain ⟨rfl, hsz, hP, hC, hD0⟩ := hv
  have hx := B.exec
  have hb := B.bytes
  have hr := B.returns
  have hts := atoms_spec (ws := wsX4_noteBehind) B.pre
  have hown : s.vm.findClass RX4 = some m.cls := findClass_of_methodNamed B.named
  have hlocks := B.notSynchronized
  subst hsz
  have hD := hD0.self (sz := s.heap.size)
  dsimp only [QV, QI, QL, BQ]
  generalize hAe : va_A [(h0, .inr (4, [.ref e1, .ref e2, .int (nI ks), .ref e3])), (e1, .inl (ca 1, 6, .inl fe1))] s.heap.size = A at hD ⊢
  have hA : ∀ q : Nat, s.heap.size ≤ q → A q := fun q h => by rw [← hAe]; exact Or.inr h
  have hDA : ∀ {w : va_W}, va_D A w → va_D (va_A [(h0, .inr (4, [.ref e1, .ref e2, .int (nI ks), .ref e3])), (e1, .inl (ca 1, 6, .inl fe1))] s.heap.size) w := fun h => by rw [hAe]; exact h
  have hS : va_S A s.heap s.heap [] := va_S.rf
  have hP : va_P D vwCl [(h0, .inr (4, [.ref e1, .ref e2, .int (nI ks), .ref e3])), (e1, .inl (ca 1, 6, .inl fe1))] s.heap := hP
  have hl := lv_entry ([.ref h0, .int x1, .int x2]) (n := 4) (Nat.le_of_ble_eq_true rfl)
  rw [lg_entry_eq]
  generalize (lg_sl ([.ref h0, .int x1, .int x2]) ++ List.replicate (4 - (lg_sl ([.ref h0, .int x1, .int x2])).length) Slot.unset).toArray = ls at hl ⊢
  have hl : lv_has ls 4 [(0, .ref h0), (1, .int x1), (2, .int x2)] := hl
  refine lv_iconst (v := 0) hx hb dX4_noteBehind_0 (by decide +kernel) ?_
  refine lv_istore_n (lv' := [(3, .int 0), (0, .ref h0), (1, .int x1), (2, .int x2)]) hx hb dX4_noteBehind_1 rfl hl (by decide +kernel) rfl (fun ls hl => ?_)
  refine lp_ind (I := fun (n : Nat) H locs ls => ∃ (ji : Nat) (je : Nat → Int32), ji ≤ 6 ∧ ji + n = 7 ∧ lv_has ls 4 [(3, .int (nI ji)), (0, .ref h0), (1, .int x1), (2, .int x2)] ∧ va_P D vwCl [(h0, .inr (4, [.ref e1, .ref e2, .int (nI ks), .ref e3])), (e1, .inl (ca 1, 6, .inl je))] H ∧ va_D A [(h0, .inr (4, [.ref e1, .ref e2, .int (nI ks), .ref e3])), (e1, .inl (ca 1, 6, .inl je))] ∧ va_S A s.heap H locs) (Wf := fun H locs ls => W p l e _ s m _ below meth c H locs _ _ _ (F0 m 2 ls [])) (7) ⟨0, fe1, (by omega), (by omega), hl, hP, hD, hS⟩ ?_ ?_
  · intro H locs ls hI
    obtain ⟨ji, je, hji, hmji, -⟩ := hI
    omega
  intro n ih_1 H locs ls hI
  obtain ⟨ji, je, hji, hmji, hl, hP, hD, hS⟩ := hI
  refine lv_iload_n hx hb dX4_noteBehind_2 rfl (lv_at hl 0 rfl) ?_
  refine lv_bipush (v := 6) hx hb dX4_noteBehind_3 (by decide +kernel) ?_
  refine lv_icmp_ge (tgt := 34) hx hb dX4_noteBehind_5 (by decide +kernel) (fun c_2 => ?_) (fun c_2 => ?_)
  · have nc_2 : 6 ≤ ji := (nI_leI (a := 6) (b := ji) (by omega) (by omega)).mp c_2
    exact W.vret hx hb hr (fun t ht hW => ⟨⟨je, rfl, trivial, by rw [ht]; exact hP.sub [0, 1] rfl, hDA (hD.sub [0, 1] (by decide +kernel) rfl)⟩, hS.F ht⟩) hS.2.2 dX4_noteBehind_34
  · have nc_2 : ¬ (6 ≤ ji) := fun h => c_2 ((nI_leI (a := 6) (b := ji) (by omega) (by omega)).mpr h)
    refine lv_iload_n hx hb dX4_noteBehind_8 rfl (lv_at hl 3 rfl) ?_
    refine lv_iconst (v := 1) hx hb dX4_noteBehind_9 (by decide +kernel) ?_
    refine lv_iload_n hx hb dX4_noteBehind_10 rfl (lv_at hl 0 rfl) ?_
    refine lv_ishl hx hb dX4_noteBehind_11 ?_
    refine lv_topi (fun y_3 ey_3 => ?_)
    refine lv_iand hx hb dX4_noteBehind_12 ?_
    refine lv_topi (fun y_4 ey_4 => ?_)
    refine lv_if_eq (tgt := 28) hx hb dX4_noteBehind_13 (by decide +kernel) (fun c_5 => ?_) (fun c_5 => ?_)
    · refine lv_iinc (v := nI (ji + 1)) (lv' := [(3, .int (nI (ji + 1))), (0, .ref h0), (1, .int x1), (2, .int x2)]) hx hb dX4_noteBehind_28 hl (k := 0) rfl (nI_1 _) (by decide +kernel) rfl (fun ls hl => ?_)
      refine lv_goto (tgt := 2) hx hb dX4_noteBehind_31 (by decide +kernel) ?_
      exact ih_1 _ _ _ ⟨(ji + 1), je, (by omega), (by omega), lv_sub hl [0, 1, 2, 3] rfl, hP, hD, hS⟩
    · refine lv_aload_n hx hb dX4_noteBehind_16 rfl (lv_at hl 1 rfl) ?_
      refine va_get (D := D) (ci := 4) (v := .ref e1) (C := RX4) (T := TX4) (N := 4) hx hb hts iw_X4_noteBehind_4 hown hC.1 hP 0 rfl rfl 0 (by decide +kernel) (hts (.fieldLink RX4 9 "FairWheel$Risk" "behind" "[I") (by decide +kernel)) (fun _ h9 => h9) rfl dX4_noteBehind_17 ?_
      refine lv_iload_n hx hb dX4_noteBehind_20 rfl (lv_at hl 0 rfl) ?_
      refine lv_dup2_11 hx hb dX4_noteBehind_21 rfl rfl ?_
      refine ka_iald hx hb hC.1 hP 1 1 rfl rfl ji rfl (by omega) (by decide +kernel) dX4_noteBehind_22 ?_
      refine lv_topi (fun y_6 ey_6 => ?_)
      refine lv_iconst (v := 1) hx hb dX4_noteBehind_23 (by decide +kernel) ?_
      refine lv_iload_n hx hb dX4_noteBehind_24 rfl (lv_at hl 2 rfl) ?_
      refine lv_ishl hx hb dX4_noteBehind_25 ?_
      refine lv_topi (fun y_7 ey_7 => ?_)
      refine lv_ior hx hb dX4_noteBehind_26 ?_
      refine lv_topi (fun y_8 ey_8 => ?_)
      refine ka_iast hx hb hC.1 hP hD hS 1 1 rfl rfl ji rfl (by omega) (by decide +kernel) dX4_noteBehind_27 (fun H locs hP hD hS => ?_)
      have hP : va_P D vwCl [(h0, .inr (4, [.ref e1, .ref e2, .int (nI ks), .ref e3])), (e1, .inl (ca 1, 6, .inl (upd je ji y_8)))] H := hP
      have hD : va_D A [(h0, .inr (4, [.ref e1, .ref e2, .int (nI ks), .ref e3])), (e1, .inl (ca 1, 6, .inl (upd je ji y_8)))] := hD
      refine lv_iinc (v := nI (ji + 1)) (lv' := [(3, .int (nI (ji + 1))), (0, .ref h0), (1, .int x1), (2, .int x2)]) hx hb dX4_noteBehind_28 hl (k := 0) rfl (nI_1 _) (by decide +kernel) rfl (fun ls hl => ?_)
      refine lv_goto (tgt := 2) hx hb dX4_noteBehind_31 (by decide +kernel) ?_
      exact ih_1 _ _ _ ⟨(ji + 1), (upd je ji y_8), (by omega), (by omega), lv_sub hl [0, 1, 2, 3] rfl, hP, hD, hS⟩
theorem iw_X4_measure_4 : ∀ w ∈ u_ws RX4 TX4 4, w ∈ wsX4_measure := by decide +kernel
set_option maxHeartbeats 4000000 in
set_option maxRecDepth 100000 in
theorem s_X4_measure (l : Launch) (D : va_G) (ca : Nat → ClassId) (sz : Nat) (h0 : Nat) (e1 : Nat) (e2 : Nat) (e3 : Nat) (ks : Nat) (fe1 : Nat → Int32) (fe2 : Nat → Int32) (x1 : Int32) : Met l yX4_measure wsX4_measure ({ frames := 2, cells := 0, slots := 0, locals := 36 }) (PC [.ref h0, .int x1] sz D ca [(h0, .inr (4, [.ref e1, .ref e2, .int (nI ks), .ref e3])), (e1, .inl (ca 1, 6, .inl fe1)), (e2, .inl (ca 1, 6, .inl fe2))]) (QV (fun (u : (Nat → Int32)) => True) (fun (u : (Nat → Int32)) => [(h0, .inr (4, [.ref e1, .ref e2, .int (nI ks), .ref e3])), (e1, .inl (ca 1, 6, .inl fe1)), (e2, .inl (ca 1, 6, .inl u))]) [(h0, .inr (4, [.ref e1, .ref e2, .int (nI ks), .ref e3])), (e1, .inl (ca 1, 6, .inl fe1)), (e2, .inl (ca 1, 6, .inl fe2))] sz D) 0 0 (va_A [(h0, .inr (4, [.ref e1, .ref e2, .int (nI ks), .ref e3])), (e1, .inl (ca 1, 6, .inl fe1)), (e2, .inl (ca 1, 6, .inl fe2))] sz) := by
  refine Met.ofW (cc := cX4_measure) (maxL := 4) (ret := none) (by decide +kernel) rfl ?_
  intro p e s m args below meth c s₁ B hml hv
  obtain ⟨rfl, hsz, hP, hC, hD0⟩ := hv
  have hx := B.exec
  have hb := B.bytes
  have hr := B.returns
  have hts := atoms_spec (ws := wsX4_measure) B.pre
  have hown : s.vm.findClass RX4 = some m.cls := findClass_of_methodNamed B.named
  have hlocks := B.notSynchronized
  subst hsz
  have hD := hD0.self (sz := s.heap.size)
  dsimp only [QV, QI, QL, BQ]
  generalize hAe : va_A [(h0, .inr (4, [.ref e1, .ref e2, .int (nI ks), .ref e3])), (e1, .inl (ca 1, 6, .inl fe1)), (e2, .inl (ca 1, 6, .inl fe2))] s.heap.size = A at hD ⊢
  have hA : ∀ q : Nat, s.heap.size ≤ q → A q := fun q h => by rw [← hAe]; exact Or.inr h
  have hDA : ∀ {w : va_W}, va_D A w → va_D (va_A [(h0, .inr (4, [.ref e1, .ref e2, .int (nI ks), .ref e3])), (e1, .inl (ca 1, 6, .inl fe1)), (e2, .inl (ca 1, 6, .inl fe2))] s.heap.size) w := fun h => by rw [hAe]; exact h
  have hS : va_S A s.heap s.heap [] := va_S.rf
  have hP : va_P D vwCl [(h0, .inr (4, [.ref e1, .ref e2, .int (nI ks), .ref e3])), (e1, .inl (ca 1, 6, .inl fe1)), (e2, .inl (ca 1, 6, .inl fe2))] s.heap := hP
  have hl := lv_entry ([.ref h0, .int x1]) (n := 4) (Nat.le_of_ble_eq_true rfl)
  rw [lg_entry_eq]
  generalize (lg_sl ([.ref h0, .int x1]) ++ List.replicate (4 - (lg_sl ([.ref h0, .int x1])).length) Slot.unset).toArray = ls at hl ⊢
  have hl : lv_has ls 4 [(0, .ref h0), (1, .int x1)] := hl
  refine lv_iconst (v := 0) hx hb dX4_measure_0 (by decide +kernel) ?_
  refine lv_istore_n (lv' := [(2, .int 0), (0, .ref h0), (1, .int x1)]) hx hb dX4_measure_1 rfl hl (by decide +kernel) rfl (fun ls hl => ?_)
  refine lp_ind (I := fun (n : Nat) H locs ls => ∃ (ji : Nat) (ja : Nat → Int32), ji ≤ 6 ∧ ji + n = 7 ∧ lv_has ls 4 [(2, .int (nI ji)), (0, .ref h0), (1, .int x1)] ∧ va_P D vwCl [(h0, .inr (4, [.ref e1, .ref e2, .int (nI ks), .ref e3])), (e1, .inl (ca 1, 6, .inl fe1)), (e2, .inl (ca 1, 6, .inl ja))] H ∧ va_D A [(h0, .inr (4, [.ref e1, .ref e2, .int (nI ks), .ref e3])), (e1, .inl (ca 1, 6, .inl fe1)), (e2, .inl (ca 1, 6, .inl ja))] ∧ va_S A s.heap H locs) (Wf := fun H locs ls => W p l e _ s m _ below meth c H locs _ _ _ (F0 m 2 ls [])) (7) ⟨0, fe2, (by omega), (by omega), hl, hP, hD, hS⟩ ?_ ?_
  · intro H locs ls hI
    obtain ⟨ji, ja, hji, hmji, -⟩ := hI
    omega
  intro n ih_1 H locs ls hI
  obtain ⟨ji, ja, hji, hmji, hl, hP, hD, hS⟩ := hI
  refine lv_iload_n hx hb dX4_measure_2 rfl (lv_at hl 0 rfl) ?_
  refine lv_bipush (v := 6) hx hb dX4_measure_3 (by decide +kernel) ?_
  refine lv_icmp_ge (tgt := 31) hx hb dX4_measure_5 (by decide +kernel) (fun c_2 => ?_) (fun c_2 => ?_)
  · have nc_2 : 6 ≤ ji := (nI_leI (a := 6) (b := ji) (by omega) (by omega)).mp c_2
    refine lv_iconst (v := 0) hx hb dX4_measure_31 (by decide +kernel) ?_
    refine lv_istore_n (lv' := [(2, .int 0), (0, .ref h0), (1, .int x1)]) hx hb dX4_measure_32 rfl hl (by decide +kernel) rfl (fun ls hl => ?_)
    refine lp_ind (I := fun (n : Nat) H locs ls => ∃ (jj : Nat) (jb : Nat → Int32), jj ≤ 6 ∧ jj + n = 7 ∧ lv_has ls 4 [(2, .int (nI jj)), (0, .ref h0), (1, .int x1)] ∧ va_P D vwCl [(h0, .inr (4, [.ref e1, .ref e2, .int (nI ks), .ref e3])), (e1, .inl (ca 1, 6, .inl fe1)), (e2, .inl (ca 1, 6, .inl jb))] H ∧ va_D A [(h0, .inr (4, [.ref e1, .ref e2, .int (nI ks), .ref e3])), (e1, .inl (ca 1, 6, .inl fe1)), (e2, .inl (ca 1, 6, .inl jb))] ∧ va_S A s.heap H locs) (Wf := fun H locs ls => W p l e _ s m _ below meth c H locs _ _ _ (F0 m 33 ls [])) (7) ⟨0, ja, (by omega), (by omega), hl, hP, hD, hS⟩ ?_ ?_
    · intro H locs ls hI
      obtain ⟨jj, jb, hjj, hmjj, -⟩ := hI
      omega
    intro n ih_3 H locs ls hI
    obtain ⟨jj, jb, hjj, hmjj, hl, hP, hD, hS⟩ := hI
    refine lv_iload_n hx hb dX4_measure_33 rfl (lv_at hl 0 rfl) ?_
    refine lv_bipush (v := 6) hx hb dX4_measure_34 (by decide +kernel) ?_
    refine lv_icmp_ge (tgt := 81) hx hb dX4_measure_36 (by decide +kernel) (fun c_4 => ?_) (fun c_4 => ?_)
    · have nc_4 : 6 ≤ jj := (nI_leI (a := 6) (b := jj) (by omega) (by omega)).mp c_4
      exact W.vret hx hb hr (fun t ht hW => ⟨⟨jb, rfl, trivial, by rw [ht]; exact hP.sub [0, 1, 2] rfl, hDA (hD.sub [0, 1, 2] (by decide +kernel) rfl)⟩, hS.F ht⟩) hS.2.2 dX4_measure_81
    · have nc_4 : ¬ (6 ≤ jj) := fun h => c_4 ((nI_leI (a := 6) (b := jj) (by omega) (by omega)).mpr h)
      refine lv_iconst (v := 0) hx hb dX4_measure_39 (by decide +kernel) ?_
      refine lv_istore_n (lv' := [(3, .int 0), (2, .int (nI jj)), (0, .ref h0), (1, .int x1)]) hx hb dX4_measure_40 rfl hl (by decide +kernel) rfl (fun ls hl => ?_)
      refine lp_ind (I := fun (n : Nat) H locs ls => ∃ (jk : Nat) (jc : Nat → Int32), jk ≤ 6 ∧ jk + n = 7 ∧ lv_has ls 4 [(3, .int (nI jk)), (2, .int (nI jj)), (0, .ref h0), (1, .int x1)] ∧ va_P D vwCl [(h0, .inr (4, [.ref e1, .ref e2, .int (nI ks), .ref e3])), (e1, .inl (ca 1, 6, .inl fe1)), (e2, .inl (ca 1, 6, .inl jc))] H ∧ va_D A [(h0, .inr (4, [.ref e1, .ref e2, .int (nI ks), .ref e3])), (e1, .inl (ca 1, 6, .inl fe1)), (e2, .inl (ca 1, 6, .inl jc))] ∧ va_S A s.heap H locs) (Wf := fun H locs ls => W p l e _ s m _ below meth c H locs _ _ _ (F0 m 41 ls [])) (7) ⟨0, jb, (by omega), (by omega), hl, hP, hD, hS⟩ ?_ ?_
      · intro H locs ls hI
        obtain ⟨jk, jc, hjk, hmjk, -⟩ := hI
        omega
      intro n ih_5 H locs ls hI
      obtain ⟨jk, jc, hjk, hmjk, hl, hP, hD, hS⟩ := hI
      refine lv_iload_n hx hb dX4_measure_41 rfl (lv_at hl 0 rfl) ?_
      refine lv_bipush (v := 6) hx hb dX4_measure_42 (by decide +kernel) ?_
      refine lv_icmp_ge (tgt := 75) hx hb dX4_measure_44 (by decide +kernel) (fun c_6 => ?_) (fun c_6 => ?_)
      · have nc_6 : 6 ≤ jk := (nI_leI (a := 6) (b := jk) (by omega) (by omega)).mp c_6
        refine lv_iinc (v := nI (jj + 1)) (lv' := [(2, .int (nI (jj + 1))), (3, .int (nI jk)), (0, .ref h0), (1, .int x1)]) hx hb dX4_measure_75 hl (k := 1) rfl (nI_1 _) (by decide +kernel) rfl (fun ls hl => ?_)
        refine lv_goto (tgt := 33) hx hb dX4_measure_78 (by decide +kernel) ?_
        exact ih_3 _ _ _ ⟨(jj + 1), jc, (by omega), (by omega), lv_sub hl [0, 2, 3] rfl, hP, hD, hS⟩
      · have nc_6 : ¬ (6 ≤ jk) := fun h => c_6 ((nI_leI (a := 6) (b := jk) (by omega) (by omega)).mpr h)
        refine lv_aload_n hx hb dX4_measure_47 rfl (lv_at hl 2 rfl) ?_
        refine va_get (D := D) (ci := 4) (v := .ref e2) (C := RX4) (T := TX4) (N := 4) hx hb hts iw_X4_measure_4 hown hC.1 hP 0 rfl rfl 1 (by decide +kernel) (hts (.fieldLink RX4 15 "FairWheel$Risk" "steps" "[I") (by decide +kernel)) (fun _ h9 => h9) rfl dX4_measure_48 ?_
        refine lv_iload_n hx hb dX4_measure_51 rfl (lv_at hl 0 rfl) ?_
        refine lv_aload_n hx hb dX4_measure_52 rfl (lv_at hl 2 rfl) ?_
        refine va_get (D := D) (ci := 4) (v := .ref e2) (C := RX4) (T := TX4) (N := 4) hx hb hts iw_X4_measure_4 hown hC.1 hP 0 rfl rfl 1 (by decide +kernel) (hts (.fieldLink RX4 15 "FairWheel$Risk" "steps" "[I") (by decide +kernel)) (fun _ h9 => h9) rfl dX4_measure_53 ?_
        refine lv_iload_n hx hb dX4_measure_56 rfl (lv_at hl 0 rfl) ?_
        refine ka_iald hx hb hC.1 hP 2 1 rfl rfl jk rfl (by omega) (by decide +kernel) dX4_measure_57 ?_
        refine lv_topi (fun y_7 ey_7 => ?_)
        refine lv_aload_n hx hb dX4_measure_58 rfl (lv_at hl 2 rfl) ?_
        refine lv_iload_n hx hb dX4_measure_59 rfl (lv_at hl 0 rfl) ?_
        refine kc_i (wr := []) (va_runV (As := [.int (nI jk)]) (rest := [.int y_7, .int (nI jk), .ref e2]) ⟨hx, hb, hml, hown, hts⟩ (s_X4_fewestBehind l D ca H.size h0 e1 e2 e3 ks fe1 jc jk (by omega)) (cwV 1 hts gX4_measure_X4_fewestBehind rfl rfl rfl (by decide +kernel) ⟨(Nat.le_of_ble_eq_true rfl), (Nat.le_of_ble_eq_true rfl)⟩) (PC.preV (ci := 4) hC hP hD [0, 1, 2] rfl (by decide +kernel) rfl rfl) rfl rfl hl.1 rfl (lv_room (Nat.le_of_ble_eq_true rfl)) dX4_measure_60 ⟨(Nat.le_of_ble_eq_true rfl), (Nat.le_of_ble_eq_true rfl)⟩) hP hD hS hA [0, 1, 2] [] rfl rfl (by decide +kernel) (by decide +kernel) (fun r_8 u_10 H locs hw_9 hP hD hS => ?_)
        have hP : va_P D vwCl [(h0, .inr (4, [.ref e1, .ref e2, .int (nI ks), .ref e3])), (e1, .inl (ca 1, 6, .inl fe1)), (e2, .inl (ca 1, 6, .inl jc))] H := hP
        have hD : va_D A [(h0, .inr (4, [.ref e1, .ref e2, .int (nI ks), .ref e3])), (e1, .inl (ca 1, 6, .inl fe1)), (e2, .inl (ca 1, 6, .inl jc))] := hD
        refine lv_iconst (v := 1) hx hb dX4_measure_63 (by decide +kernel) ?_
        refine lv_iadd hx hb dX4_measure_64 ?_
        refine lv_topi (fun y_11 ey_11 => ?_)
        refine va_mmin hx hb (hml.trans hl.1.symm) hown (hts (.methodLink RX4 65 Lib.Math.min.name) (by decide +kernel)) (hts (.static Lib.Math.min.name) (by decide +kernel)) (hts (.initialized "java/lang/Math") (by decide +kernel)) (hts (.code Lib.Math.min.name Lib.Math.min.code 2 (some .int)) (by decide +kernel)) (Nat.le_of_ble_eq_true rfl) (Nat.le_of_ble_eq_true rfl) (Nat.le_of_ble_eq_true rfl) (Nat.le_of_ble_eq_true rfl) dX4_measure_65 ?_
        refine lv_topi (fun y_12 ey_12 => ?_)
        refine ka_iast hx hb hC.1 hP hD hS 2 1 rfl rfl jk rfl (by omega) (by decide +kernel) dX4_measure_68 (fun H locs hP hD hS => ?_)
        have hP : va_P D vwCl [(h0, .inr (4, [.ref e1, .ref e2, .int (nI ks), .ref e3])), (e1, .inl (ca 1, 6, .inl fe1)), (e2, .inl (ca 1, 6, .inl (upd jc jk y_12)))] H := hP
        have hD : va_D A [(h0, .inr (4, [.ref e1, .ref e2, .int (nI ks), .ref e3])), (e1, .inl (ca 1, 6, .inl fe1)), (e2, .inl (ca 1, 6, .inl (upd jc jk y_12)))] := hD
        refine lv_iinc (v := nI (jk + 1)) (lv' := [(3, .int (nI (jk + 1))), (2, .int (nI jj)), (0, .ref h0), (1, .int x1)]) hx hb dX4_measure_69 hl (k := 0) rfl (nI_1 _) (by decide +kernel) rfl (fun ls hl => ?_)
        refine lv_goto (tgt := 41) hx hb dX4_measure_72 (by decide +kernel) ?_
        exact ih_5 _ _ _ ⟨(jk + 1), (upd jc jk y_12), (by omega), (by omega), lv_sub hl [0, 1, 2, 3] rfl, hP, hD, hS⟩
  · have nc_2 : ¬ (6 ≤ ji) := fun h => c_2 ((nI_leI (a := 6) (b := ji) (by omega) (by omega)).mpr h)
    refine lv_aload_n hx hb dX4_measure_8 rfl (lv_at hl 1 rfl) ?_
    refine va_get (D := D) (ci := 4) (v := .ref e2) (C := RX4) (T := TX4) (N := 4) hx hb hts iw_X4_measure_4 hown hC.1 hP 0 rfl rfl 1 (by decide +kernel) (hts (.fieldLink RX4 15 "FairWheel$Risk" "steps" "[I") (by decide +kernel)) (fun _ h9 => h9) rfl dX4_measure_9 ?_
    refine lv_iload_n hx hb dX4_measure_12 rfl (lv_at hl 0 rfl) ?_
    refine lv_iload_n hx hb dX4_measure_13 rfl (lv_at hl 0 rfl) ?_
    refine lv_iload_n hx hb dX4_measure_14 rfl (lv_at hl 2 rfl) ?_
    refine lv_icmp_ne (tgt := 22) hx hb dX4_measure_15 (by decide +kernel) (fun c_13 => ?_) (fun c_13 => ?_)
    · refine lv_bipush (v := 7) hx hb dX4_measure_22 (by decide +kernel) ?_
      refine ka_iast hx hb hC.1 hP hD hS 2 1 rfl rfl ji rfl (by omega) (by decide +kernel) dX4_measure_24 (fun H locs hP hD hS => ?_)
      have hP : va_P D vwCl [(h0, .inr (4, [.ref e1, .ref e2, .int (nI ks), .ref e3])), (e1, .inl (ca 1, 6, .inl fe1)), (e2, .inl (ca 1, 6, .inl (upd ja ji 7)))] H := hP
      have hD : va_D A [(h0, .inr (4, [.ref e1, .ref e2, .int (nI ks), .ref e3])), (e1, .inl (ca 1, 6, .inl fe1)), (e2, .inl (ca 1, 6, .inl (upd ja ji 7)))] := hD
      refine lv_iinc (v := nI (ji + 1)) (lv' := [(2, .int (nI (ji + 1))), (0, .ref h0), (1, .int x1)]) hx hb dX4_measure_25 hl (k := 0) rfl (nI_1 _) (by decide +kernel) rfl (fun ls hl => ?_)
      refine lv_goto (tgt := 2) hx hb dX4_measure_28 (by decide +kernel) ?_
      exact ih_1 _ _ _ ⟨(ji + 1), (upd ja ji 7), (by omega), (by omega), lv_sub hl [0, 1, 2] rfl, hP, hD, hS⟩
    · refine lv_iconst (v := 0) hx hb dX4_measure_18 (by decide +kernel) ?_
      refine lv_goto (tgt := 24) hx hb dX4_measure_19 (by decide +kernel) ?_
      refine ka_iast hx hb hC.1 hP hD hS 2 1 rfl rfl ji rfl (by omega) (by decide +kernel) dX4_measure_24 (fun H locs hP hD hS => ?_)
      have hP : va_P D vwCl [(h0, .inr (4, [.ref e1, .ref e2, .int (nI ks), .ref e3])), (e1, .inl (ca 1, 6, .inl fe1)), (e2, .inl (ca 1, 6, .inl (upd ja ji 0)))] H := hP
      have hD : va_D A [(h0, .inr (4, [.ref e1, .ref e2, .int (nI ks), .ref e3])), (e1, .inl (ca 1, 6, .inl fe1)), (e2, .inl (ca 1, 6, .inl (upd ja ji 0)))] := hD
      refine lv_iinc (v := nI (ji + 1)) (lv' := [(2, .int (nI (ji + 1))), (0, .ref h0), (1, .int x1)]) hx hb dX4_measure_25 hl (k := 0) rfl (nI_1 _) (by decide +kernel) rfl (fun ls hl => ?_)
      refine lv_goto (tgt := 2) hx hb dX4_measure_28 (by decide +kernel) ?_
      exact ih_1 _ _ _ ⟨(ji + 1), (upd ja ji 0), (by omega), (by omega), lv_sub hl [0, 1, 2] rfl, hP, hD, hS⟩
