set_option maxHeartbeats 4000000 in
set_option maxRecDepth 100000 in
theorem whole_start {p : Program} {e : Env} {s : State} {m : MethodId} {below : List Frame} {meth : Method} {c : Code} (l : Launch) {b L : Nat} {xs : Nat → Int32} (hL : L ≤ 6) (C0 : lw_At p s m meth c b L xs) : W p l e room_1 s m #[Value.ref b] below meth c s.heap [] 0 0 (lw_Z below #[Value.ref b] s) (entryFrame m ([Value.ref b] : List Value).toArray 4) := by
  obtain ⟨hx, hb, hr, hml, hown, hts, hX, hbl, hlocks, hgv⟩ := id C0
  obtain ⟨D, ca, hC⟩ := law_cx hts
  obtain ⟨A, hAe⟩ : ∃ A : Nat → Prop, A = fun q => s.heap.size ≤ q := ⟨_, rfl⟩
  have hA : ∀ q : Nat, s.heap.size ≤ q → A q := fun q h => by rw [hAe]; exact h
  have hAs : ∀ q : Nat, A q → s.heap.size ≤ q := fun q h => by rw [hAe] at h; exact h
  have hbA : ¬ A b := fun h => Nat.not_le.mpr hbl (hAs b h)
  have hS : va_S A s.heap s.heap [] := va_S.rf
  have hP : va_P D vwCl [] s.heap := fun k q h => by simp at h
  have hD : va_D A [] := ⟨fun i j p q h => by simp at h, fun k q h => by simp at h⟩
  have hl := lv_entry ([.ref b]) (n := 4) (Nat.le_of_ble_eq_true rfl)
  rw [lg_entry_eq]
  generalize (lg_sl ([.ref b]) ++ List.replicate (4 - (lg_sl ([.ref b])).length) Slot.unset).toArray = ls at hl ⊢
  have hl : lv_has ls 4 [(0, .ref b)] := hl
  refine va_new (ci := 10) (fs := [.null, .null, .null, .null, .null, .null, .null, .null, .null, .null, .null, .int 0]) (C := RX10) (T := TX10) (N := 12) hx hb hts lf_X10 tyX10 tyX10_ok hown (hts (.classLink RL 7 RX10) (by decide +kernel)) (hts (.instantiable RX10 12) (by decide +kernel)) (hts (.initialized RX10) (by decide +kernel)) hC.1 hP hD hS hA rfl df_X10 (Nat.le_of_ble_eq_true rfl) (Nat.le_of_ble_eq_true rfl) dL_law_0 (fun q0 H hP hD hS => ?_)
  have hP : va_P D vwCl [(q0, .inr (10, [.null, .null, .null, .null, .null, .null, .null, .null, .null, .null, .null, .int 0]))] H := hP
  have hD : va_D A [(q0, .inr (10, [.null, .null, .null, .null, .null, .null, .null, .null, .null, .null, .null, .int 0]))] := hD
  refine lv_dup hx hb dL_law_3 rfl ?_
  have ht_X10_init : ∀ w ∈ wsX10_init, w.before #[Value.ref b] s = true := fun w h => hts w (lt_X10_init w h)
  refine kc_v (wr := []) (va_runI (As := []) (rest := [.ref q0]) ⟨hx, hb, hml, hown, ht_X10_init⟩ (k_X10_init l D ca H.size q0) (cwI 0 ht_X10_init lg_X10_init rfl rfl rfl (hts (.initialized RX10) (by decide +kernel)) (hts (.methodLink RL 9 yX10_init) (by decide +kernel)) (hts (.instanceMethod yX10_init) (by decide +kernel)) rfl (by decide +kernel) ⟨(Nat.le_of_ble_eq_true rfl), (Nat.le_of_ble_eq_true rfl)⟩) (PC.preS hC hP hD [0] rfl (by decide +kernel)) rfl rfl hl.1 rfl (lv_room (Nat.le_of_ble_eq_true rfl)) dL_law_4 ⟨(Nat.le_of_ble_eq_true rfl), (Nat.le_of_ble_eq_true rfl)⟩) hP hD hS hA [0] [] rfl rfl (by decide +kernel) (by decide +kernel) (fun u_2 H locs hw_1 hP hD hS => ?_)
  obtain ⟨a_3, a_4, a_5, a_6, a_7, a_8, a_9, a_10, a_11, a_12, a_13, a_14, a_15, a_16, a_17, a_18, a_19, a_20, a_21, a_22, a_23, a_24, a_25, a_26, a_27, a_28, a_29, a_30, a_31, a_32, a_33, a_34, a_35, a_36, a_37, a_38, a_39, a_40, a_41, a_42, a_43, a_44, a_45, a_46, a_47, f_48, a_49, a_50, a_51, f_52, a_53, a_54, a_55, f_56, a_57, a_58, a_59, f_60, a_61, a_62, a_63, a_64, a_65, a_66, a_67, a_68, a_69, a_70, a_71, a_72, f_73, a_74, a_75, a_76, a_77, a_78⟩ := u_2
  have hP : va_P D vwCl [(q0, .inr (10, [.ref a_3, .ref a_6, .ref a_8, .ref a_10, .ref a_12, .ref a_13, .ref a_27, .ref a_31, .ref a_32, .ref a_25, .ref a_5, .int 0])), (a_3, .inr (7, [.ref a_4, .int 0])), (a_4, .inl (ca 0, 1700, .inl (fun _ => 0))), (a_5, .inr (2, [.int 1, .int 0, .int 0, .int 0, .int 0, .ref a_36, .ref a_37, .ref a_38, .ref a_39, .ref a_40, .ref a_41, .ref a_42, .ref a_43, .ref a_44])), (a_6, .inr (3, [.ref a_7, .ref a_5, .int 0, .int 0, .int 0, .int (-1)])), (a_7, .inr (5, [.ref a_3, .int 0, .int 0, .int 0, .long 0, .int 0])), (a_8, .inr (9, [.ref a_25, .int 0, .ref a_45, .ref a_9, .ref a_46, .ref a_47])), (a_9, .inl (ca 1, 6, .inl f_48)), (a_10, .inr (9, [.ref a_25, .int 0, .ref a_49, .ref a_11, .ref a_50, .ref a_51])), (a_11, .inl (ca 1, 6, .inl f_52)), (a_12, .inl (ca 1, 2000, .inl (fun _ => 0))), (a_13, .inl (ca 4, 3, .inr (.inr (.inr (.inr (va_up (va_up (va_up (fun _ => none) 0 (some a_14)) 1 (some a_18)) 2 (some a_22))))))), (a_14, .inr (0, [.ref a_16, .ref a_15, .int 0])), (a_15, .inl (ca 1, 2000, .inl (fun _ => 0))), (a_16, .inr (9, [.ref a_25, .int 0, .ref a_53, .ref a_17, .ref a_54, .ref a_55])), (a_17, .inl (ca 1, 6, .inl f_56)), (a_18, .inr (0, [.ref a_20, .ref a_19, .int 0])), (a_19, .inl (ca 1, 2000, .inl (fun _ => 0))), (a_20, .inr (9, [.ref a_25, .int 0, .ref a_57, .ref a_21, .ref a_58, .ref a_59])), (a_21, .inl (ca 1, 6, .inl f_60)), (a_22, .inr (0, [.ref a_24, .ref a_23, .int 0])), (a_23, .inl (ca 1, 2000, .inl (fun _ => 0))), (a_24, .inr (9, [.ref a_25, .int 0, .ref a_61, .ref a_26, .ref a_62, .ref a_63])), (a_25, .inr (2, [.int 1, .int 0, .int 0, .int 0, .int 0, .ref a_64, .ref a_65, .ref a_66, .ref a_67, .ref a_68, .ref a_69, .ref a_70, .ref a_71, .ref a_72])), (a_26, .inl (ca 1, 6, .inl f_73)), (a_27, .inr (1, [.int 0, .ref a_28, .ref a_29, .ref a_30])), (a_28, .inl (ca 1, 60, .inl (fun _ => 0))), (a_29, .inl (ca 1, 60, .inl (fun _ => 0))), (a_30, .inl (ca 1, 60, .inl (fun _ => 0))), (a_31, .inr (6, [.int 0, .ref a_74, .ref a_75, .ref a_76, .ref a_77, .ref a_78])), (a_32, .inr (4, [.ref a_33, .ref a_34, .int 0, .ref a_35])), (a_33, .inl (ca 1, 6, .inl (fun _ => 0))), (a_34, .inl (ca 1, 6, .inl (fun _ => 0))), (a_35, .inl (ca 1, 6, .inl (fun _ => 0)))] H := hP
  have hD : va_D A [(q0, .inr (10, [.ref a_3, .ref a_6, .ref a_8, .ref a_10, .ref a_12, .ref a_13, .ref a_27, .ref a_31, .ref a_32, .ref a_25, .ref a_5, .int 0])), (a_3, .inr (7, [.ref a_4, .int 0])), (a_4, .inl (ca 0, 1700, .inl (fun _ => 0))), (a_5, .inr (2, [.int 1, .int 0, .int 0, .int 0, .int 0, .ref a_36, .ref a_37, .ref a_38, .ref a_39, .ref a_40, .ref a_41, .ref a_42, .ref a_43, .ref a_44])), (a_6, .inr (3, [.ref a_7, .ref a_5, .int 0, .int 0, .int 0, .int (-1)])), (a_7, .inr (5, [.ref a_3, .int 0, .int 0, .int 0, .long 0, .int 0])), (a_8, .inr (9, [.ref a_25, .int 0, .ref a_45, .ref a_9, .ref a_46, .ref a_47])), (a_9, .inl (ca 1, 6, .inl f_48)), (a_10, .inr (9, [.ref a_25, .int 0, .ref a_49, .ref a_11, .ref a_50, .ref a_51])), (a_11, .inl (ca 1, 6, .inl f_52)), (a_12, .inl (ca 1, 2000, .inl (fun _ => 0))), (a_13, .inl (ca 4, 3, .inr (.inr (.inr (.inr (va_up (va_up (va_up (fun _ => none) 0 (some a_14)) 1 (some a_18)) 2 (some a_22))))))), (a_14, .inr (0, [.ref a_16, .ref a_15, .int 0])), (a_15, .inl (ca 1, 2000, .inl (fun _ => 0))), (a_16, .inr (9, [.ref a_25, .int 0, .ref a_53, .ref a_17, .ref a_54, .ref a_55])), (a_17, .inl (ca 1, 6, .inl f_56)), (a_18, .inr (0, [.ref a_20, .ref a_19, .int 0])), (a_19, .inl (ca 1, 2000, .inl (fun _ => 0))), (a_20, .inr (9, [.ref a_25, .int 0, .ref a_57, .ref a_21, .ref a_58, .ref a_59])), (a_21, .inl (ca 1, 6, .inl f_60)), (a_22, .inr (0, [.ref a_24, .ref a_23, .int 0])), (a_23, .inl (ca 1, 2000, .inl (fun _ => 0))), (a_24, .inr (9, [.ref a_25, .int 0, .ref a_61, .ref a_26, .ref a_62, .ref a_63])), (a_25, .inr (2, [.int 1, .int 0, .int 0, .int 0, .int 0, .ref a_64, .ref a_65, .ref a_66, .ref a_67, .ref a_68, .ref a_69, .ref a_70, .ref a_71, .ref a_72])), (a_26, .inl (ca 1, 6, .inl f_73)), (a_27, .inr (1, [.int 0, .ref a_28, .ref a_29, .ref a_30])), (a_28, .inl (ca 1, 60, .inl (fun _ => 0))), (a_29, .inl (ca 1, 60, .inl (fun _ => 0))), (a_30, .inl (ca 1, 60, .inl (fun _ => 0))), (a_31, .inr (6, [.int 0, .ref a_74, .ref a_75, .ref a_76, .ref a_77, .ref a_78])), (a_32, .inr (4, [.ref a_33, .ref a_34, .int 0, .ref a_35])), (a_33, .inl (ca 1, 6, .inl (fun _ => 0))), (a_34, .inl (ca 1, 6, .inl (fun _ => 0))), (a_35, .inl (ca 1, 6, .inl (fun _ => 0)))] := hD
  refine lv_astore_n (lv' := [(1, .ref q0), (0, .ref b)]) hx hb dL_law_7 rfl hl (by decide +kernel) rfl (fun ls hl => ?_)
  refine va_new (ci := 11) (fs := [.null, .null, .int 0, .int 0, .int 0, .int 0, .int 0, .int 0, .int 0, .int 0, .long 0, .null, .null, .null, .null, .null, .null, .null, .null, .null, .null, .null, .null, .null, .null, .null, .null, .null, .int 0, .int 0, .null, .null, .null, .null, .null, .int 0, .null, .null, .null, .null, .int 0, .null, .null, .null, .int 0, .null, .null, .null, .null, .null, .int 0, .int 0, .null, .null, .null]) (C := RX11) (T := TX11) (N := 55) hx hb hts lf_X11 tyX11 tyX11_ok hown (hts (.classLink RL 10 RX11) (by decide +kernel)) (hts (.instantiable RX11 55) (by decide +kernel)) (hts (.initialized RX11) (by decide +kernel)) hC.1 hP hD hS hA rfl df_X11 (Nat.le_of_ble_eq_true rfl) (Nat.le_of_ble_eq_true rfl) dL_law_8 (fun q8 H hP hD hS => ?_)
  have hP : va_P D vwCl [(q0, .inr (10, [.ref a_3, .ref a_6, .ref a_8, .ref a_10, .ref a_12, .ref a_13, .ref a_27, .ref a_31, .ref a_32, .ref a_25, .ref a_5, .int 0])), (a_3, .inr (7, [.ref a_4, .int 0])), (a_4, .inl (ca 0, 1700, .inl (fun _ => 0))), (a_5, .inr (2, [.int 1, .int 0, .int 0, .int 0, .int 0, .ref a_36, .ref a_37, .ref a_38, .ref a_39, .ref a_40, .ref a_41, .ref a_42, .ref a_43, .ref a_44])), (a_6, .inr (3, [.ref a_7, .ref a_5, .int 0, .int 0, .int 0, .int (-1)])), (a_7, .inr (5, [.ref a_3, .int 0, .int 0, .int 0, .long 0, .int 0])), (a_8, .inr (9, [.ref a_25, .int 0, .ref a_45, .ref a_9, .ref a_46, .ref a_47])), (a_9, .inl (ca 1, 6, .inl f_48)), (a_10, .inr (9, [.ref a_25, .int 0, .ref a_49, .ref a_11, .ref a_50, .ref a_51])), (a_11, .inl (ca 1, 6, .inl f_52)), (a_12, .inl (ca 1, 2000, .inl (fun _ => 0))), (a_13, .inl (ca 4, 3, .inr (.inr (.inr (.inr (va_up (va_up (va_up (fun _ => none) 0 (some a_14)) 1 (some a_18)) 2 (some a_22))))))), (a_14, .inr (0, [.ref a_16, .ref a_15, .int 0])), (a_15, .inl (ca 1, 2000, .inl (fun _ => 0))), (a_16, .inr (9, [.ref a_25, .int 0, .ref a_53, .ref a_17, .ref a_54, .ref a_55])), (a_17, .inl (ca 1, 6, .inl f_56)), (a_18, .inr (0, [.ref a_20, .ref a_19, .int 0])), (a_19, .inl (ca 1, 2000, .inl (fun _ => 0))), (a_20, .inr (9, [.ref a_25, .int 0, .ref a_57, .ref a_21, .ref a_58, .ref a_59])), (a_21, .inl (ca 1, 6, .inl f_60)), (a_22, .inr (0, [.ref a_24, .ref a_23, .int 0])), (a_23, .inl (ca 1, 2000, .inl (fun _ => 0))), (a_24, .inr (9, [.ref a_25, .int 0, .ref a_61, .ref a_26, .ref a_62, .ref a_63])), (a_25, .inr (2, [.int 1, .int 0, .int 0, .int 0, .int 0, .ref a_64, .ref a_65, .ref a_66, .ref a_67, .ref a_68, .ref a_69, .ref a_70, .ref a_71, .ref a_72])), (a_26, .inl (ca 1, 6, .inl f_73)), (a_27, .inr (1, [.int 0, .ref a_28, .ref a_29, .ref a_30])), (a_28, .inl (ca 1, 60, .inl (fun _ => 0))), (a_29, .inl (ca 1, 60, .inl (fun _ => 0))), (a_30, .inl (ca 1, 60, .inl (fun _ => 0))), (a_31, .inr (6, [.int 0, .ref a_74, .ref a_75, .ref a_76, .ref a_77, .ref a_78])), (a_32, .inr (4, [.ref a_33, .ref a_34, .int 0, .ref a_35])), (a_33, .inl (ca 1, 6, .inl (fun _ => 0))), (a_34, .inl (ca 1, 6, .inl (fun _ => 0))), (a_35, .inl (ca 1, 6, .inl (fun _ => 0))), (q8, .inr (11, [.null, .null, .int 0, .int 0, .int 0, .int 0, .int 0, .int 0, .int 0, .int 0, .long 0, .null, .null, .null, .null, .null, .null, .null, .null, .null, .null, .null, .null, .null, .null, .null, .null, .null, .int 0, .int 0, .null, .null, .null, .null, .null, .int 0, .null, .null, .null, .null, .int 0, .null, .null, .null, .int 0, .null, .null, .null, .null, .null, .int 0, .int 0, .null, .null, .null]))] H := hP
  have hD : va_D A [(q0, .inr (10, [.ref a_3, .ref a_6, .ref a_8, .ref a_10, .ref a_12, .ref a_13, .ref a_27, .ref a_31, .ref a_32, .ref a_25, .ref a_5, .int 0])), (a_3, .inr (7, [.ref a_4, .int 0])), (a_4, .inl (ca 0, 1700, .inl (fun _ => 0))), (a_5, .inr (2, [.int 1, .int 0, .int 0, .int 0, .int 0, .ref a_36, .ref a_37, .ref a_38, .ref a_39, .ref a_40, .ref a_41, .ref a_42, .ref a_43, .ref a_44])), (a_6, .inr (3, [.ref a_7, .ref a_5, .int 0, .int 0, .int 0, .int (-1)])), (a_7, .inr (5, [.ref a_3, .int 0, .int 0, .int 0, .long 0, .int 0])), (a_8, .inr (9, [.ref a_25, .int 0, .ref a_45, .ref a_9, .ref a_46, .ref a_47])), (a_9, .inl (ca 1, 6, .inl f_48)), (a_10, .inr (9, [.ref a_25, .int 0, .ref a_49, .ref a_11, .ref a_50, .ref a_51])), (a_11, .inl (ca 1, 6, .inl f_52)), (a_12, .inl (ca 1, 2000, .inl (fun _ => 0))), (a_13, .inl (ca 4, 3, .inr (.inr (.inr (.inr (va_up (va_up (va_up (fun _ => none) 0 (some a_14)) 1 (some a_18)) 2 (some a_22))))))), (a_14, .inr (0, [.ref a_16, .ref a_15, .int 0])), (a_15, .inl (ca 1, 2000, .inl (fun _ => 0))), (a_16, .inr (9, [.ref a_25, .int 0, .ref a_53, .ref a_17, .ref a_54, .ref a_55])), (a_17, .inl (ca 1, 6, .inl f_56)), (a_18, .inr (0, [.ref a_20, .ref a_19, .int 0])), (a_19, .inl (ca 1, 2000, .inl (fun _ => 0))), (a_20, .inr (9, [.ref a_25, .int 0, .ref a_57, .ref a_21, .ref a_58, .ref a_59])), (a_21, .inl (ca 1, 6, .inl f_60)), (a_22, .inr (0, [.ref a_24, .ref a_23, .int 0])), (a_23, .inl (ca 1, 2000, .inl (fun _ => 0))), (a_24, .inr (9, [.ref a_25, .int 0, .ref a_61, .ref a_26, .ref a_62, .ref a_63])), (a_25, .inr (2, [.int 1, .int 0, .int 0, .int 0, .int 0, .ref a_64, .ref a_65, .ref a_66, .ref a_67, .ref a_68, .ref a_69, .ref a_70, .ref a_71, .ref a_72])), (a_26, .inl (ca 1, 6, .inl f_73)), (a_27, .inr (1, [.int 0, .ref a_28, .ref a_29, .ref a_30])), (a_28, .inl (ca 1, 60, .inl (fun _ => 0))), (a_29, .inl (ca 1, 60, .inl (fun _ => 0))), (a_30, .inl (ca 1, 60, .inl (fun _ => 0))), (a_31, .inr (6, [.int 0, .ref a_74, .ref a_75, .ref a_76, .ref a_77, .ref a_78])), (a_32, .inr (4, [.ref a_33, .ref a_34, .int 0, .ref a_35])), (a_33, .inl (ca 1, 6, .inl (fun _ => 0))), (a_34, .inl (ca 1, 6, .inl (fun _ => 0))), (a_35, .inl (ca 1, 6, .inl (fun _ => 0))), (q8, .inr (11, [.null, .null, .int 0, .int 0, .int 0, .int 0, .int 0, .int 0, .int 0, .int 0, .long 0, .null, .null, .null, .null, .null, .null, .null, .null, .null, .null, .null, .null, .null, .null, .null, .null, .null, .int 0, .int 0, .null, .null, .null, .null, .null, .int 0, .null, .null, .null, .null, .int 0, .null, .null, .null, .int 0, .null, .null, .null, .null, .null, .int 0, .int 0, .null, .null, .null]))] := hD
  refine lv_dup hx hb dL_law_11 rfl ?_
  have ht_X11_init : ∀ w ∈ wsX11_init, w.before #[Value.ref b] s = true := fun w h => hts w (lt_X11_init w h)
  refine kc_v (wr := [(q0, .inr (10, [.ref a_3, .ref a_6, .ref a_8, .ref a_10, .ref a_12, .ref a_13, .ref a_27, .ref a_31, .ref a_32, .ref a_25, .ref a_5, .int 0])), (a_3, .inr (7, [.ref a_4, .int 0])), (a_4, .inl (ca 0, 1700, .inl (fun _ => 0))), (a_5, .inr (2, [.int 1, .int 0, .int 0, .int 0, .int 0, .ref a_36, .ref a_37, .ref a_38, .ref a_39, .ref a_40, .ref a_41, .ref a_42, .ref a_43, .ref a_44])), (a_6, .inr (3, [.ref a_7, .ref a_5, .int 0, .int 0, .int 0, .int (-1)])), (a_7, .inr (5, [.ref a_3, .int 0, .int 0, .int 0, .long 0, .int 0])), (a_8, .inr (9, [.ref a_25, .int 0, .ref a_45, .ref a_9, .ref a_46, .ref a_47])), (a_9, .inl (ca 1, 6, .inl f_48)), (a_10, .inr (9, [.ref a_25, .int 0, .ref a_49, .ref a_11, .ref a_50, .ref a_51])), (a_11, .inl (ca 1, 6, .inl f_52)), (a_12, .inl (ca 1, 2000, .inl (fun _ => 0))), (a_13, .inl (ca 4, 3, .inr (.inr (.inr (.inr (va_up (va_up (va_up (fun _ => none) 0 (some a_14)) 1 (some a_18)) 2 (some a_22))))))), (a_14, .inr (0, [.ref a_16, .ref a_15, .int 0])), (a_15, .inl (ca 1, 2000, .inl (fun _ => 0))), (a_16, .inr (9, [.ref a_25, .int 0, .ref a_53, .ref a_17, .ref a_54, .ref a_55])), (a_17, .inl (ca 1, 6, .inl f_56)), (a_18, .inr (0, [.ref a_20, .ref a_19, .int 0])), (a_19, .inl (ca 1, 2000, .inl (fun _ => 0))), (a_20, .inr (9, [.ref a_25, .int 0, .ref a_57, .ref a_21, .ref a_58, .ref a_59])), (a_21, .inl (ca 1, 6, .inl f_60)), (a_22, .inr (0, [.ref a_24, .ref a_23, .int 0])), (a_23, .inl (ca 1, 2000, .inl (fun _ => 0))), (a_24, .inr (9, [.ref a_25, .int 0, .ref a_61, .ref a_26, .ref a_62, .ref a_63])), (a_25, .inr (2, [.int 1, .int 0, .int 0, .int 0, .int 0, .ref a_64, .ref a_65, .ref a_66, .ref a_67, .ref a_68, .ref a_69, .ref a_70, .ref a_71, .ref a_72])), (a_26, .inl (ca 1, 6, .inl f_73)), (a_27, .inr (1, [.int 0, .ref a_28, .ref a_29, .ref a_30])), (a_28, .inl (ca 1, 60, .inl (fun _ => 0))), (a_29, .inl (ca 1, 60, .inl (fun _ => 0))), (a_30, .inl (ca 1, 60, .inl (fun _ => 0))), (a_31, .inr (6, [.int 0, .ref a_74, .ref a_75, .ref a_76, .ref a_77, .ref a_78])), (a_32, .inr (4, [.ref a_33, .ref a_34, .int 0, .ref a_35])), (a_33, .inl (ca 1, 6, .inl (fun _ => 0))), (a_34, .inl (ca 1, 6, .inl (fun _ => 0))), (a_35, .inl (ca 1, 6, .inl (fun _ => 0)))]) (va_runI (As := []) (rest := [.ref q8]) ⟨hx, hb, hml, hown, ht_X11_init⟩ (k_X11_init l D ca H.size q8) (cwI 0 ht_X11_init lg_X11_init rfl rfl rfl (hts (.initialized RX11) (by decide +kernel)) (hts (.methodLink RL 12 yX11_init) (by decide +kernel)) (hts (.instanceMethod yX11_init) (by decide +kernel)) rfl (by decide +kernel) ⟨(Nat.le_of_ble_eq_true rfl), (Nat.le_of_ble_eq_true rfl)⟩) (PC.preS hC hP hD [34] rfl (by decide +kernel)) rfl rfl hl.1 rfl (lv_room (Nat.le_of_ble_eq_true rfl)) dL_law_12 ⟨(Nat.le_of_ble_eq_true rfl), (Nat.le_of_ble_eq_true rfl)⟩) hP hD hS hA [34] [0, 1, 2, 3, 4, 5, 6, 7, 8, 9, 10, 11, 12, 13, 14, 15, 16, 17, 18, 19, 20, 21, 22, 23, 24, 25, 26, 27, 28, 29, 30, 31, 32, 33] rfl rfl (by decide +kernel) (by decide +kernel) (fun u_80 H locs hw_79 hP hD hS => ?_)
  obtain ⟨a_81, a_82, a_83, a_84, a_85, a_86, a_87, a_88, a_89, a_90, a_91, a_92, a_93, a_94, a_95, a_96, a_97, a_98, a_99, a_100, a_101, a_102, a_103, a_104, a_105, a_106, a_107, a_108, a_109, a_110, a_111, a_112, a_113, a_114, a_115, a_116, a_117, a_118, a_119, f_120⟩ := u_80
  have hu_121 := hw_79
  have hP : va_P D vwCl [(q0, .inr (10, [.ref a_3, .ref a_6, .ref a_8, .ref a_10, .ref a_12, .ref a_13, .ref a_27, .ref a_31, .ref a_32, .ref a_25, .ref a_5, .int 0])), (a_3, .inr (7, [.ref a_4, .int 0])), (a_4, .inl (ca 0, 1700, .inl (fun _ => 0))), (a_5, .inr (2, [.int 1, .int 0, .int 0, .int 0, .int 0, .ref a_36, .ref a_37, .ref a_38, .ref a_39, .ref a_40, .ref a_41, .ref a_42, .ref a_43, .ref a_44])), (a_6, .inr (3, [.ref a_7, .ref a_5, .int 0, .int 0, .int 0, .int (-1)])), (a_7, .inr (5, [.ref a_3, .int 0, .int 0, .int 0, .long 0, .int 0])), (a_8, .inr (9, [.ref a_25, .int 0, .ref a_45, .ref a_9, .ref a_46, .ref a_47])), (a_9, .inl (ca 1, 6, .inl f_48)), (a_10, .inr (9, [.ref a_25, .int 0, .ref a_49, .ref a_11, .ref a_50, .ref a_51])), (a_11, .inl (ca 1, 6, .inl f_52)), (a_12, .inl (ca 1, 2000, .inl (fun _ => 0))), (a_13, .inl (ca 4, 3, .inr (.inr (.inr (.inr (va_up (va_up (va_up (fun _ => none) 0 (some a_14)) 1 (some a_18)) 2 (some a_22))))))), (a_14, .inr (0, [.ref a_16, .ref a_15, .int 0])), (a_15, .inl (ca 1, 2000, .inl (fun _ => 0))), (a_16, .inr (9, [.ref a_25, .int 0, .ref a_53, .ref a_17, .ref a_54, .ref a_55])), (a_17, .inl (ca 1, 6, .inl f_56)), (a_18, .inr (0, [.ref a_20, .ref a_19, .int 0])), (a_19, .inl (ca 1, 2000, .inl (fun _ => 0))), (a_20, .inr (9, [.ref a_25, .int 0, .ref a_57, .ref a_21, .ref a_58, .ref a_59])), (a_21, .inl (ca 1, 6, .inl f_60)), (a_22, .inr (0, [.ref a_24, .ref a_23, .int 0])), (a_23, .inl (ca 1, 2000, .inl (fun _ => 0))), (a_24, .inr (9, [.ref a_25, .int 0, .ref a_61, .ref a_26, .ref a_62, .ref a_63])), (a_25, .inr (2, [.int 1, .int 0, .int 0, .int 0, .int 0, .ref a_64, .ref a_65, .ref a_66, .ref a_67, .ref a_68, .ref a_69, .ref a_70, .ref a_71, .ref a_72])), (a_26, .inl (ca 1, 6, .inl f_73)), (a_27, .inr (1, [.int 0, .ref a_28, .ref a_29, .ref a_30])), (a_28, .inl (ca 1, 60, .inl (fun _ => 0))), (a_29, .inl (ca 1, 60, .inl (fun _ => 0))), (a_30, .inl (ca 1, 60, .inl (fun _ => 0))), (a_31, .inr (6, [.int 0, .ref a_74, .ref a_75, .ref a_76, .ref a_77, .ref a_78])), (a_32, .inr (4, [.ref a_33, .ref a_34, .int 0, .ref a_35])), (a_33, .inl (ca 1, 6, .inl (fun _ => 0))), (a_34, .inl (ca 1, 6, .inl (fun _ => 0))), (a_35, .inl (ca 1, 6, .inl (fun _ => 0))), (q8, .inr (11, [.ref a_81, .ref a_100, .int 0, .int 0, .int 0, .int (-1), .int 0, .int 0, .int 0, .int 0, .long 0, .ref a_82, .ref a_83, .ref a_84, .ref a_85, .ref a_86, .ref a_101, .ref a_102, .ref a_103, .ref a_104, .ref a_105, .ref a_106, .ref a_107, .ref a_108, .ref a_87, .ref a_88, .ref a_89, .ref a_109, .int 0, .int 0, .ref a_90, .ref a_91, .ref a_92, .ref a_110, .ref a_111, .int 0, .ref a_112, .ref a_93, .ref a_94, .ref a_113, .int 0, .ref a_95, .ref a_96, .ref a_97, .int 0, .ref a_114, .ref a_115, .ref a_116, .ref a_117, .ref a_118, .int 0, .int 0, .ref a_98, .ref a_119, .ref a_99])), (a_81, .inl (ca 0, 1720, .inl (fun _ => 0))), (a_82, .inl (ca 1, 2, .inl (upd (fun _ => 0) 0 1))), (a_83, .inl (ca 1, 2, .inl (fun _ => 0))), (a_84, .inl (ca 1, 2, .inl (fun _ => 0))), (a_85, .inl (ca 1, 2, .inl (fun _ => 0))), (a_86, .inl (ca 1, 2, .inl (fun _ => 0))), (a_87, .inl (ca 3, 2, .inl (fun _ => 0))), (a_88, .inl (ca 3, 2, .inl (fun _ => 0))), (a_89, .inl (ca 3, 2, .inl (fun _ => 0))), (a_90, .inl (ca 1, 340, .inl f_120)), (a_91, .inl (ca 1, 8000, .inl (fun _ => 0))), (a_92, .inl (ca 1, 4, .inl (fun _ => 0))), (a_93, .inl (ca 1, 6, .inl (fun _ => 0))), (a_94, .inl (ca 1, 8, .inl (fun _ => 0))), (a_95, .inl (ca 1, 60, .inl (fun _ => 0))), (a_96, .inl (ca 1, 60, .inl (fun _ => 0))), (a_97, .inl (ca 1, 60, .inl (fun _ => 0))), (a_98, .inl (ca 1, 1020, .inl (fun _ => 0))), (a_99, .inl (ca 3, 3, .inl (fun _ => 0)))] H := hP
  have hD : va_D A [(q0, .inr (10, [.ref a_3, .ref a_6, .ref a_8, .ref a_10, .ref a_12, .ref a_13, .ref a_27, .ref a_31, .ref a_32, .ref a_25, .ref a_5, .int 0])), (a_3, .inr (7, [.ref a_4, .int 0])), (a_4, .inl (ca 0, 1700, .inl (fun _ => 0))), (a_5, .inr (2, [.int 1, .int 0, .int 0, .int 0, .int 0, .ref a_36, .ref a_37, .ref a_38, .ref a_39, .ref a_40, .ref a_41, .ref a_42, .ref a_43, .ref a_44])), (a_6, .inr (3, [.ref a_7, .ref a_5, .int 0, .int 0, .int 0, .int (-1)])), (a_7, .inr (5, [.ref a_3, .int 0, .int 0, .int 0, .long 0, .int 0])), (a_8, .inr (9, [.ref a_25, .int 0, .ref a_45, .ref a_9, .ref a_46, .ref a_47])), (a_9, .inl (ca 1, 6, .inl f_48)), (a_10, .inr (9, [.ref a_25, .int 0, .ref a_49, .ref a_11, .ref a_50, .ref a_51])), (a_11, .inl (ca 1, 6, .inl f_52)), (a_12, .inl (ca 1, 2000, .inl (fun _ => 0))), (a_13, .inl (ca 4, 3, .inr (.inr (.inr (.inr (va_up (va_up (va_up (fun _ => none) 0 (some a_14)) 1 (some a_18)) 2 (some a_22))))))), (a_14, .inr (0, [.ref a_16, .ref a_15, .int 0])), (a_15, .inl (ca 1, 2000, .inl (fun _ => 0))), (a_16, .inr (9, [.ref a_25, .int 0, .ref a_53, .ref a_17, .ref a_54, .ref a_55])), (a_17, .inl (ca 1, 6, .inl f_56)), (a_18, .inr (0, [.ref a_20, .ref a_19, .int 0])), (a_19, .inl (ca 1, 2000, .inl (fun _ => 0))), (a_20, .inr (9, [.ref a_25, .int 0, .ref a_57, .ref a_21, .ref a_58, .ref a_59])), (a_21, .inl (ca 1, 6, .inl f_60)), (a_22, .inr (0, [.ref a_24, .ref a_23, .int 0])), (a_23, .inl (ca 1, 2000, .inl (fun _ => 0))), (a_24, .inr (9, [.ref a_25, .int 0, .ref a_61, .ref a_26, .ref a_62, .ref a_63])), (a_25, .inr (2, [.int 1, .int 0, .int 0, .int 0, .int 0, .ref a_64, .ref a_65, .ref a_66, .ref a_67, .ref a_68, .ref a_69, .ref a_70, .ref a_71, .ref a_72])), (a_26, .inl (ca 1, 6, .inl f_73)), (a_27, .inr (1, [.int 0, .ref a_28, .ref a_29, .ref a_30])), (a_28, .inl (ca 1, 60, .inl (fun _ => 0))), (a_29, .inl (ca 1, 60, .inl (fun _ => 0))), (a_30, .inl (ca 1, 60, .inl (fun _ => 0))), (a_31, .inr (6, [.int 0, .ref a_74, .ref a_75, .ref a_76, .ref a_77, .ref a_78])), (a_32, .inr (4, [.ref a_33, .ref a_34, .int 0, .ref a_35])), (a_33, .inl (ca 1, 6, .inl (fun _ => 0))), (a_34, .inl (ca 1, 6, .inl (fun _ => 0))), (a_35, .inl (ca 1, 6, .inl (fun _ => 0))), (q8, .inr (11, [.ref a_81, .ref a_100, .int 0, .int 0, .int 0, .int (-1), .int 0, .int 0, .int 0, .int 0, .long 0, .ref a_82, .ref a_83, .ref a_84, .ref a_85, .ref a_86, .ref a_101, .ref a_102, .ref a_103, .ref a_104, .ref a_105, .ref a_106, .ref a_107, .ref a_108, .ref a_87, .ref a_88, .ref a_89, .ref a_109, .int 0, .int 0, .ref a_90, .ref a_91, .ref a_92, .ref a_110, .ref a_111, .int 0, .ref a_112, .ref a_93, .ref a_94, .ref a_113, .int 0, .ref a_95, .ref a_96, .ref a_97, .int 0, .ref a_114, .ref a_115, .ref a_116, .ref a_117, .ref a_118, .int 0, .int 0, .ref a_98, .ref a_119, .ref a_99])), (a_81, .inl (ca 0, 1720, .inl (fun _ => 0))), (a_82, .inl (ca 1, 2, .inl (upd (fun _ => 0) 0 1))), (a_83, .inl (ca 1, 2, .inl (fun _ => 0))), (a_84, .inl (ca 1, 2, .inl (fun _ => 0))), (a_85, .inl (ca 1, 2, .inl (fun _ => 0))), (a_86, .inl (ca 1, 2, .inl (fun _ => 0))), (a_87, .inl (ca 3, 2, .inl (fun _ => 0))), (a_88, .inl (ca 3, 2, .inl (fun _ => 0))), (a_89, .inl (ca 3, 2, .inl (fun _ => 0))), (a_90, .inl (ca 1, 340, .inl f_120)), (a_91, .inl (ca 1, 8000, .inl (fun _ => 0))), (a_92, .inl (ca 1, 4, .inl (fun _ => 0))), (a_93, .inl (ca 1, 6, .inl (fun _ => 0))), (a_94, .inl (ca 1, 8, .inl (fun _ => 0))), (a_95, .inl (ca 1, 60, .inl (fun _ => 0))), (a_96, .inl (ca 1, 60, .inl (fun _ => 0))), (a_97, .inl (ca 1, 60, .inl (fun _ => 0))), (a_98, .inl (ca 1, 1020, .inl (fun _ => 0))), (a_99, .inl (ca 3, 3, .inl (fun _ => 0)))] := hD
  refine lv_astore_n (lv' := [(2, .ref q8), (1, .ref q0), (0, .ref b)]) hx hb dL_law_15 rfl hl (by decide +kernel) rfl (fun ls hl => ?_)
  refine lv_iconst (v := 0) hx hb dL_law_16 (by decide +kernel) ?_
  refine lv_istore_n (lv' := [(3, .int 0), (2, .ref q8), (1, .ref q0), (0, .ref b)]) hx hb dL_law_17 rfl hl (by decide +kernel) rfl (fun ls hl => ?_)
  refine W.widen (k := 212) (n := 50162) (by omega) (by omega) ?_
  rcases (show L = 0 ∨ L = 1 ∨ L = 2 ∨ L = 3 ∨ L = 4 ∨ L = 5 ∨ L = 6 by omega) with rfl | rfl | rfl | rfl | rfl | rfl | rfl
  · refine lv_iload_n hx hb dL_law_18 rfl (lv_at hl 0 rfl) ?_
    refine lv_aload_n hx hb dL_law_19 rfl (lv_at hl 3 rfl) ?_
    refine va_slen hx hb hX hbl hbA hS dL_law_20 ?_
    refine nt_i 0 rfl ?_
    refine lv_bipush (v := 6) hx hb dL_law_21 (by decide +kernel) ?_
    refine lv_isub hx hb dL_law_23 ?_
    refine nt_i (-6) (by decide +kernel) ?_
    refine lv_icmp_gt (tgt := 938) hx hb dL_law_24 (by decide +kernel) (fun c_122 => ?_) (fun c_122 => absurd (by decide +kernel) c_122)
    refine lv_iconst (v := 1) hx hb dL_law_938 (by decide +kernel) ?_
    refine va_forget (fun q hq => hAs _ (hS.2.2 q hq)) ?_
    refine W.widen (k := 600000) (n := 7302250) (Nat.le_of_ble_eq_true rfl) (Nat.le_of_ble_eq_true rfl) ?_
    exact lw_ret hx hb hr hlocks dL_law_939
  · refine lv_iload_n hx hb dL_law_18 rfl (lv_at hl 0 rfl) ?_
    refine lv_aload_n hx hb dL_law_19 rfl (lv_at hl 3 rfl) ?_
    refine va_slen hx hb hX hbl hbA hS dL_law_20 ?_
    refine nt_i 1 rfl ?_
    refine lv_bipush (v := 6) hx hb dL_law_21 (by decide +kernel) ?_
    refine lv_isub hx hb dL_law_23 ?_
    refine nt_i (-5) (by decide +kernel) ?_
    refine lv_icmp_gt (tgt := 938) hx hb dL_law_24 (by decide +kernel) (fun c_123 => ?_) (fun c_123 => absurd (by decide +kernel) c_123)
    refine lv_iconst (v := 1) hx hb dL_law_938 (by decide +kernel) ?_
    refine va_forget (fun q hq => hAs _ (hS.2.2 q hq)) ?_
    refine W.widen (k := 600000) (n := 7302250) (Nat.le_of_ble_eq_true rfl) (Nat.le_of_ble_eq_true rfl) ?_
    exact lw_ret hx hb hr hlocks dL_law_939
  · refine lv_iload_n hx hb dL_law_18 rfl (lv_at hl 0 rfl) ?_
    refine lv_aload_n hx hb dL_law_19 rfl (lv_at hl 3 rfl) ?_
    refine va_slen hx hb hX hbl hbA hS dL_law_20 ?_
    refine nt_i 2 rfl ?_
    refine lv_bipush (v := 6) hx hb dL_law_21 (by decide +kernel) ?_
    refine lv_isub hx hb dL_law_23 ?_
    refine nt_i (-4) (by decide +kernel) ?_
    refine lv_icmp_gt (tgt := 938) hx hb dL_law_24 (by decide +kernel) (fun c_124 => ?_) (fun c_124 => absurd (by decide +kernel) c_124)
    refine lv_iconst (v := 1) hx hb dL_law_938 (by decide +kernel) ?_
    refine va_forget (fun q hq => hAs _ (hS.2.2 q hq)) ?_
    refine W.widen (k := 600000) (n := 7302250) (Nat.le_of_ble_eq_true rfl) (Nat.le_of_ble_eq_true rfl) ?_
    exact lw_ret hx hb hr hlocks dL_law_939
  · refine lv_iload_n hx hb dL_law_18 rfl (lv_at hl 0 rfl) ?_
    refine lv_aload_n hx hb dL_law_19 rfl (lv_at hl 3 rfl) ?_
    refine va_slen hx hb hX hbl hbA hS dL_law_20 ?_
    refine nt_i 3 rfl ?_
    refine lv_bipush (v := 6) hx hb dL_law_21 (by decide +kernel) ?_
    refine lv_isub hx hb dL_law_23 ?_
    refine nt_i (-3) (by decide +kernel) ?_
    refine lv_icmp_gt (tgt := 938) hx hb dL_law_24 (by decide +kernel) (fun c_125 => ?_) (fun c_125 => absurd (by decide +kernel) c_125)
    refine lv_iconst (v := 1) hx hb dL_law_938 (by decide +kernel) ?_
    refine va_forget (fun q hq => hAs _ (hS.2.2 q hq)) ?_
    refine W.widen (k := 600000) (n := 7302250) (Nat.le_of_ble_eq_true rfl) (Nat.le_of_ble_eq_true rfl) ?_
    exact lw_ret hx hb hr hlocks dL_law_939
  · refine lv_iload_n hx hb dL_law_18 rfl (lv_at hl 0 rfl) ?_
    refine lv_aload_n hx hb dL_law_19 rfl (lv_at hl 3 rfl) ?_
    refine va_slen hx hb hX hbl hbA hS dL_law_20 ?_
    refine nt_i 4 rfl ?_
    refine lv_bipush (v := 6) hx hb dL_law_21 (by decide +kernel) ?_
    refine lv_isub hx hb dL_law_23 ?_
    refine nt_i (-2) (by decide +kernel) ?_
    refine lv_icmp_gt (tgt := 938) hx hb dL_law_24 (by decide +kernel) (fun c_126 => ?_) (fun c_126 => absurd (by decide +kernel) c_126)
    refine lv_iconst (v := 1) hx hb dL_law_938 (by decide +kernel) ?_
    refine va_forget (fun q hq => hAs _ (hS.2.2 q hq)) ?_
    refine W.widen (k := 600000) (n := 7302250) (Nat.le_of_ble_eq_true rfl) (Nat.le_of_ble_eq_true rfl) ?_
    exact lw_ret hx hb hr hlocks dL_law_939
  · refine lv_iload_n hx hb dL_law_18 rfl (lv_at hl 0 rfl) ?_
    refine lv_aload_n hx hb dL_law_19 rfl (lv_at hl 3 rfl) ?_
    refine va_slen hx hb hX hbl hbA hS dL_law_20 ?_
    refine nt_i 5 rfl ?_
    refine lv_bipush (v := 6) hx hb dL_law_21 (by decide +kernel) ?_
    refine lv_isub hx hb dL_law_23 ?_
    refine nt_i (-1) (by decide +kernel) ?_
    refine lv_icmp_gt (tgt := 938) hx hb dL_law_24 (by decide +kernel) (fun c_127 => ?_) (fun c_127 => absurd (by decide +kernel) c_127)
    refine lv_iconst (v := 1) hx hb dL_law_938 (by decide +kernel) ?_
    refine va_forget (fun q hq => hAs _ (hS.2.2 q hq)) ?_
    refine W.widen (k := 600000) (n := 7302250) (Nat.le_of_ble_eq_true rfl) (Nat.le_of_ble_eq_true rfl) ?_
    exact lw_ret hx hb hr hlocks dL_law_939
  · refine lv_iload_n hx hb dL_law_18 rfl (lv_at hl 0 rfl) ?_
    refine lv_aload_n hx hb dL_law_19 rfl (lv_at hl 3 rfl) ?_
    refine va_slen hx hb hX hbl hbA hS dL_law_20 ?_
    refine nt_i 6 rfl ?_
    refine lv_bipush (v := 6) hx hb dL_law_21 (by decide +kernel) ?_
    refine lv_isub hx hb dL_law_23 ?_
    refine nt_i 0 (by decide +kernel) ?_
    refine lv_icmp_gt (tgt := 938) hx hb dL_law_24 (by decide +kernel) (fun c_128 => absurd c_128 (by decide +kernel)) (fun c_128 => ?_)
    refine lv_aload_n hx hb dL_law_27 rfl (lv_at hl 3 rfl) ?_
    refine lv_iload_n hx hb dL_law_28 rfl (lv_at hl 0 rfl) ?_
    refine va_sld hx hb hX hbl hbA hS (pk_in 0 6 (by decide +kernel)) dL_law_29 ?_
    refine nt_i (xs 0) (congrArg xs (by decide +kernel)) ?_
    refine lv_bipush (v := 31) hx hb dL_law_30 (by decide +kernel) ?_
    refine lv_iand hx hb dL_law_32 ?_
    obtain ⟨j, hj, ej⟩ : ∃ j : Nat, j < 32 ∧ (xs 0) &&& 31 = nI j := ⟨_, Nat.mod_lt _ (by decide +kernel), pk_and (xs 0) 5 (by decide +kernel)⟩
    rcases (show j = 0 ∨ j = 1 ∨ j = 2 ∨ j = 3 ∨ j = 4 ∨ j = 5 ∨ j = 6 ∨ j = 7 ∨ j = 8 ∨ j = 9 ∨ j = 10 ∨ j = 11 ∨ j = 12 ∨ j = 13 ∨ j = 14 ∨ j = 15 ∨ j = 16 ∨ j = 17 ∨ j = 18 ∨ j = 19 ∨ j = 20 ∨ j = 21 ∨ j = 22 ∨ j = 23 ∨ j = 24 ∨ j = 25 ∨ j = 26 ∨ j = 27 ∨ j = 28 ∨ j = 29 ∨ j = 30 ∨ j = 31 by omega) with rfl | rfl | rfl | rfl | rfl | rfl | rfl | rfl | rfl | rfl | rfl | rfl | rfl | rfl | rfl | rfl | rfl | rfl | rfl | rfl | rfl | rfl | rfl | rfl | rfl | rfl | rfl | rfl | rfl | rfl | rfl | rfl
    · refine nt_i 0 ej ?_
      refine lv_tableIn (off := 127) (tgt := 160) hx hb dL_law_33 (by decide +kernel) (by decide +kernel) (by decide +kernel) (by decide +kernel) ?_
      exact law_c0 l C0 hC hA hAs hbA q0 a_3 a_6 a_8 a_10 a_12 a_13 a_27 a_31 a_32 a_25 a_5 a_4 (fun _ => 0) q8 a_81 a_100 a_82 a_83 a_84 a_85 a_86 a_101 a_102 a_103 a_104 a_105 a_106 a_107 a_108 a_87 a_88 a_89 a_109 a_90 a_91 a_92 a_110 a_111 a_112 a_93 a_94 a_113 a_95 a_96 a_97 a_114 a_115 a_116 a_117 a_118 a_98 a_119 a_99 (fun _ => 0) H locs ls (hP.sub [0, 1, 2, 34, 35] rfl) (hD.sub [0, 1, 2, 34, 35] (by decide +kernel) rfl) hS (lv_sub hl [0, 1, 2, 3] rfl)
    · refine nt_i 1 ej ?_
      refine lv_tableIn (off := 190) (tgt := 223) hx hb dL_law_33 (by decide +kernel) (by decide +kernel) (by decide +kernel) (by decide +kernel) ?_
      exact law_c1 l C0 hC hA hAs hbA q0 a_3 a_6 a_8 a_10 a_12 a_13 a_27 a_31 a_32 a_25 a_5 a_4 q8 a_81 a_100 a_82 a_83 a_84 a_85 a_86 a_101 a_102 a_103 a_104 a_105 a_106 a_107 a_108 a_87 a_88 a_89 a_109 a_90 a_91 a_92 a_110 a_111 a_112 a_93 a_94 a_113 a_95 a_96 a_97 a_114 a_115 a_116 a_117 a_118 a_98 a_119 a_99 H locs ls (hP.sub [0, 1, 34] rfl) (hD.sub [0, 1, 34] (by decide +kernel) rfl) hS (lv_sub hl [0, 1, 2, 3] rfl)
    · refine nt_i 2 ej ?_
      refine lv_tableIn (off := 213) (tgt := 246) hx hb dL_law_33 (by decide +kernel) (by decide +kernel) (by decide +kernel) (by decide +kernel) ?_
      exact law_c2 l C0 hC hA hAs hbA q0 a_3 a_6 a_8 a_10 a_12 a_13 a_27 a_31 a_32 a_25 a_5 a_7 a_4 a_36 a_37 a_38 a_39 a_40 a_41 a_42 a_43 a_44 a_45 a_9 a_46 a_47 f_48 a_14 a_18 a_22 a_16 a_15 a_20 a_19 a_24 a_23 a_28 a_29 a_30 a_74 a_75 a_76 a_77 a_78 q8 a_81 a_100 a_82 a_83 a_84 a_85 a_86 a_101 a_102 a_103 a_104 a_105 a_106 a_107 a_108 a_87 a_88 a_89 a_109 a_90 a_91 a_92 a_110 a_111 a_112 a_93 a_94 a_113 a_95 a_96 a_97 a_114 a_115 a_116 a_117 a_118 a_98 a_119 a_99 f_120 H locs ls (hP.sub [0, 4, 5, 1, 3, 6, 7, 11, 12, 16, 20, 25, 29, 34, 36, 37, 38, 39, 40, 41, 42, 43, 44, 53] rfl) (hD.sub [0, 4, 5, 1, 3, 6, 7, 11, 12, 16, 20, 25, 29, 34, 36, 37, 38, 39, 40, 41, 42, 43, 44, 53] (by decide +kernel) rfl) hS (lv_sub hl [0, 1, 2, 3] rfl)
    · refine nt_i 3 ej ?_
      refine lv_tableIn (off := 226) (tgt := 259) hx hb dL_law_33 (by decide +kernel) (by decide +kernel) (by decide +kernel) (by decide +kernel) ?_
      exact law_c3 l C0 hC hA hAs hbA q0 a_3 a_6 a_8 a_10 a_12 a_13 a_27 a_31 a_32 a_25 a_5 a_7 q8 a_81 a_100 a_82 a_83 a_84 a_85 a_86 a_101 a_102 a_103 a_104 a_105 a_106 a_107 a_108 a_87 a_88 a_89 a_109 a_90 a_91 a_92 a_110 a_111 a_112 a_93 a_94 a_113 a_95 a_96 a_97 a_114 a_115 a_116 a_117 a_118 a_98 a_119 a_99 H locs ls (hP.sub [0, 4, 34] rfl) (hD.sub [0, 4, 34] (by decide +kernel) rfl) hS (lv_sub hl [0, 1, 2, 3] rfl)
    · refine nt_i 4 ej ?_
      refine lv_tableIn (off := 249) (tgt := 282) hx hb dL_law_33 (by decide +kernel) (by decide +kernel) (by decide +kernel) (by decide +kernel) ?_
      exact law_c4 l C0 hC hA hAs hbA q0 a_3 a_6 a_8 a_10 a_12 a_13 a_27 a_31 a_32 a_25 a_5 a_45 a_9 a_46 a_47 a_64 a_65 a_66 a_67 a_68 a_69 a_70 a_71 a_72 (fun _ => 0) q8 a_81 a_100 a_82 a_83 a_84 a_85 a_86 a_101 a_102 a_103 a_104 a_105 a_106 a_107 a_108 a_87 a_88 a_89 a_109 a_90 a_91 a_92 a_110 a_111 a_112 a_93 a_94 a_113 a_95 a_96 a_97 a_114 a_115 a_116 a_117 a_118 a_98 a_119 a_99 (fun _ => 0) f_120 (fun _ => 0) hu_121 H locs ls (hP.sub [0, 6, 23, 10, 34, 36, 39, 46, 44, 45] rfl) (hD.sub [0, 6, 23, 10, 34, 36, 39, 46, 44, 45] (by decide +kernel) rfl) hS (lv_sub hl [0, 1, 2, 3] rfl)
    · refine nt_i 5 ej ?_
      refine lv_tableIn (off := 272) (tgt := 305) hx hb dL_law_33 (by decide +kernel) (by decide +kernel) (by decide +kernel) (by decide +kernel) ?_
      exact law_c5 l C0 hC hA hAs hbA q0 a_3 a_6 a_8 a_10 a_12 a_13 a_27 a_31 a_32 a_25 a_5 a_45 a_9 a_46 a_47 q8 a_81 a_100 a_82 a_83 a_84 a_85 a_86 a_101 a_102 a_103 a_104 a_105 a_106 a_107 a_108 a_87 a_88 a_89 a_109 a_90 a_91 a_92 a_110 a_111 a_112 a_93 a_94 a_113 a_95 a_96 a_97 a_114 a_115 a_116 a_117 a_118 a_98 a_119 a_99 f_120 hu_121 H locs ls (hP.sub [0, 6, 34, 44] rfl) (hD.sub [0, 6, 34, 44] (by decide +kernel) rfl) hS (lv_sub hl [0, 1, 2, 3] rfl)
    · refine nt_i 6 ej ?_
      refine lv_tableIn (off := 305) (tgt := 338) hx hb dL_law_33 (by decide +kernel) (by decide +kernel) (by decide +kernel) (by decide +kernel) ?_
      exact law_c6 l C0 hC hA hAs hbA q0 a_3 a_6 a_8 a_10 a_12 a_13 a_27 a_31 a_32 a_25 a_5 a_64 a_65 a_66 a_67 a_68 a_69 a_70 a_71 a_72 q8 a_81 a_100 a_82 a_83 a_84 a_85 a_86 a_101 a_102 a_103 a_104 a_105 a_106 a_107 a_108 a_87 a_88 a_89 a_109 a_90 a_91 a_92 a_110 a_111 a_112 a_93 a_94 a_113 a_95 a_96 a_97 a_114 a_115 a_116 a_117 a_118 a_98 a_119 a_99 H locs ls (hP.sub [0, 23, 34, 39] rfl) (hD.sub [0, 23, 34, 39] (by decide +kernel) rfl) hS (lv_sub hl [0, 1, 2, 3] rfl)
    · refine nt_i 7 ej ?_
      refine lv_tableIn (off := 338) (tgt := 371) hx hb dL_law_33 (by decide +kernel) (by decide +kernel) (by decide +kernel) (by decide +kernel) ?_
      exact law_c7 l C0 hC hA hAs hbA q0 a_3 a_6 a_8 a_10 a_12 a_13 a_27 a_31 a_32 a_25 a_5 a_64 a_65 a_66 a_67 a_68 a_69 a_70 a_71 a_72 q8 a_81 a_100 a_82 a_83 a_84 a_85 a_86 a_101 a_102 a_103 a_104 a_105 a_106 a_107 a_108 a_87 a_88 a_89 a_109 a_90 a_91 a_92 a_110 a_111 a_112 a_93 a_94 a_113 a_95 a_96 a_97 a_114 a_115 a_116 a_117 a_118 a_98 a_119 a_99 H locs ls (hP.sub [0, 23, 34, 39] rfl) (hD.sub [0, 23, 34, 39] (by decide +kernel) rfl) hS (lv_sub hl [0, 1, 2, 3] rfl)
    · refine nt_i 8 ej ?_
      refine lv_tableIn (off := 361) (tgt := 394) hx hb dL_law_33 (by decide +kernel) (by decide +kernel) (by decide +kernel) (by decide +kernel) ?_
      exact law_c8 l C0 hC hA hAs hbA q0 a_3 a_6 a_8 a_10 a_12 a_13 a_27 a_31 a_32 a_25 a_5 a_64 a_65 a_66 a_67 a_68 a_69 a_70 a_71 a_72 q8 a_81 a_100 a_82 a_83 a_84 a_85 a_86 a_101 a_102 a_103 a_104 a_105 a_106 a_107 a_108 a_87 a_88 a_89 a_109 a_90 a_91 a_92 a_110 a_111 a_112 a_93 a_94 a_113 a_95 a_96 a_97 a_114 a_115 a_116 a_117 a_118 a_98 a_119 a_99 H locs ls (hP.sub [0, 23, 34, 37] rfl) (hD.sub [0, 23, 34, 37] (by decide +kernel) rfl) hS (lv_sub hl [0, 1, 2, 3] rfl)
    · refine nt_i 9 ej ?_
      refine lv_tableIn (off := 384) (tgt := 417) hx hb dL_law_33 (by decide +kernel) (by decide +kernel) (by decide +kernel) (by decide +kernel) ?_
      exact law_c9 l C0 hC hA hAs hbA q0 a_3 a_6 a_8 a_10 a_12 a_13 a_27 a_31 a_32 a_25 a_5 a_64 a_65 a_66 a_67 a_68 a_69 a_70 a_71 a_72 q8 a_81 a_100 a_82 a_83 a_84 a_85 a_86 a_101 a_102 a_103 a_104 a_105 a_106 a_107 a_108 a_87 a_88 a_89 a_109 a_90 a_91 a_92 a_110 a_111 a_112 a_93 a_94 a_113 a_95 a_96 a_97 a_114 a_115 a_116 a_117 a_118 a_98 a_119 a_99 H locs ls (hP.sub [0, 23, 34, 37] rfl) (hD.sub [0, 23, 34, 37] (by decide +kernel) rfl) hS (lv_sub hl [0, 1, 2, 3] rfl)
    · refine nt_i 10 ej ?_
      refine lv_tableIn (off := 407) (tgt := 440) hx hb dL_law_33 (by decide +kernel) (by decide +kernel) (by decide +kernel) (by decide +kernel) ?_
      exact law_c10 l C0 hC hA hAs hbA q0 a_3 a_6 a_8 a_10 a_12 a_13 a_27 a_31 a_32 a_25 a_5 a_64 a_65 a_66 a_67 a_68 a_69 a_70 a_71 a_72 q8 a_81 a_100 a_82 a_83 a_84 a_85 a_86 a_101 a_102 a_103 a_104 a_105 a_106 a_107 a_108 a_87 a_88 a_89 a_109 a_90 a_91 a_92 a_110 a_111 a_112 a_93 a_94 a_113 a_95 a_96 a_97 a_114 a_115 a_116 a_117 a_118 a_98 a_119 a_99 H locs ls (hP.sub [0, 23, 34, 39] rfl) (hD.sub [0, 23, 34, 39] (by decide +kernel) rfl) hS (lv_sub hl [0, 1, 2, 3] rfl)
    · refine nt_i 11 ej ?_
      refine lv_tableIn (off := 440) (tgt := 473) hx hb dL_law_33 (by decide +kernel) (by decide +kernel) (by decide +kernel) (by decide +kernel) ?_
      exact law_c11 l C0 hC hA hAs hbA q0 a_3 a_6 a_8 a_10 a_12 a_13 a_27 a_31 a_32 a_25 a_5 a_64 a_65 a_66 a_67 a_68 a_69 a_70 a_71 a_72 q8 a_81 a_100 a_82 a_83 a_84 a_85 a_86 a_101 a_102 a_103 a_104 a_105 a_106 a_107 a_108 a_87 a_88 a_89 a_109 a_90 a_91 a_92 a_110 a_111 a_112 a_93 a_94 a_113 a_95 a_96 a_97 a_114 a_115 a_116 a_117 a_118 a_98 a_119 a_99 H locs ls (hP.sub [0, 23, 34, 39] rfl) (hD.sub [0, 23, 34, 39] (by decide +kernel) rfl) hS (lv_sub hl [0, 1, 2, 3] rfl)
    · refine nt_i 12 ej ?_
      refine lv_tableIn (off := 473) (tgt := 506) hx hb dL_law_33 (by decide +kernel) (by decide +kernel) (by decide +kernel) (by decide +kernel) ?_
      exact law_c12 l C0 hC hA hAs hbA q0 a_3 a_6 a_8 a_10 a_12 a_13 a_27 a_31 a_32 a_25 a_5 a_64 a_65 a_66 a_67 a_68 a_69 a_70 a_71 a_72 q8 a_81 a_100 a_82 a_83 a_84 a_85 a_86 a_101 a_102 a_103 a_104 a_105 a_106 a_107 a_108 a_87 a_88 a_89 a_109 a_90 a_91 a_92 a_110 a_111 a_112 a_93 a_94 a_113 a_95 a_96 a_97 a_114 a_115 a_116 a_117 a_118 a_98 a_119 a_99 H locs ls (hP.sub [0, 23, 34, 39] rfl) (hD.sub [0, 23, 34, 39] (by decide +kernel) rfl) hS (lv_sub hl [0, 1, 2, 3] rfl)
    · refine nt_i 13 ej ?_
      refine lv_tableIn (off := 496) (tgt := 529) hx hb dL_law_33 (by decide +kernel) (by decide +kernel) (by decide +kernel) (by decide +kernel) ?_
      exact law_c13 l C0 hC hA hAs hbA q0 a_3 a_6 a_8 a_10 a_12 a_13 a_27 a_31 a_32 a_25 a_5 a_64 a_65 a_66 a_67 a_68 a_69 a_70 a_71 a_72 q8 a_81 a_100 a_82 a_83 a_84 a_85 a_86 a_101 a_102 a_103 a_104 a_105 a_106 a_107 a_108 a_87 a_88 a_89 a_109 a_90 a_91 a_92 a_110 a_111 a_112 a_93 a_94 a_113 a_95 a_96 a_97 a_114 a_115 a_116 a_117 a_118 a_98 a_119 a_99 H locs ls (hP.sub [0, 23, 34, 39] rfl) (hD.sub [0, 23, 34, 39] (by decide +kernel) rfl) hS (lv_sub hl [0, 1, 2, 3] rfl)
    · refine nt_i 14 ej ?_
      refine lv_tableIn (off := 519) (tgt := 552) hx hb dL_law_33 (by decide +kernel) (by decide +kernel) (by decide +kernel) (by decide +kernel) ?_
      exact law_c14 l C0 hC hA hAs hbA q0 a_3 a_6 a_8 a_10 a_12 a_13 a_27 a_31 a_32 a_25 a_5 a_64 a_65 a_66 a_67 a_68 a_69 a_70 a_71 a_72 q8 a_81 a_100 a_82 a_83 a_84 a_85 a_86 a_101 a_102 a_103 a_104 a_105 a_106 a_107 a_108 a_87 a_88 a_89 a_109 a_90 a_91 a_92 a_110 a_111 a_112 a_93 a_94 a_113 a_95 a_96 a_97 a_114 a_115 a_116 a_117 a_118 a_98 a_119 a_99 H locs ls (hP.sub [0, 23, 34, 39] rfl) (hD.sub [0, 23, 34, 39] (by decide +kernel) rfl) hS (lv_sub hl [0, 1, 2, 3] rfl)
    · refine nt_i 15 ej ?_
      refine lv_tableIn (off := 542) (tgt := 575) hx hb dL_law_33 (by decide +kernel) (by decide +kernel) (by decide +kernel) (by decide +kernel) ?_
      exact law_c15 l C0 hC hA hAs hbA q0 a_3 a_6 a_8 a_10 a_12 a_13 a_27 a_31 a_32 a_25 a_5 a_64 a_65 a_66 a_67 a_68 a_69 a_70 a_71 a_72 q8 a_81 a_100 a_82 a_83 a_84 a_85 a_86 a_101 a_102 a_103 a_104 a_105 a_106 a_107 a_108 a_87 a_88 a_89 a_109 a_90 a_91 a_92 a_110 a_111 a_112 a_93 a_94 a_113 a_95 a_96 a_97 a_114 a_115 a_116 a_117 a_118 a_98 a_119 a_99 H locs ls (hP.sub [0, 23, 34, 39] rfl) (hD.sub [0, 23, 34, 39] (by decide +kernel) rfl) hS (lv_sub hl [0, 1, 2, 3] rfl)
    · refine nt_i 16 ej ?_
      refine lv_tableIn (off := 566) (tgt := 599) hx hb dL_law_33 (by decide +kernel) (by decide +kernel) (by decide +kernel) (by decide +kernel) ?_
      exact law_c16 l C0 hC hA hAs hbA q0 a_3 a_6 a_8 a_10 a_12 a_13 a_27 a_31 a_32 a_25 a_5 a_33 a_34 a_35 a_64 a_65 a_66 a_67 a_68 a_69 a_70 a_71 a_72 (fun _ => 0) q8 a_81 a_100 a_82 a_83 a_84 a_85 a_86 a_101 a_102 a_103 a_104 a_105 a_106 a_107 a_108 a_87 a_88 a_89 a_109 a_90 a_91 a_92 a_110 a_111 a_112 a_93 a_94 a_113 a_95 a_96 a_97 a_114 a_115 a_116 a_117 a_118 a_98 a_119 a_99 (fun _ => 0) H locs ls (hP.sub [0, 30, 23, 31, 32, 34, 39, 47, 48] rfl) (hD.sub [0, 30, 23, 31, 32, 34, 39, 47, 48] (by decide +kernel) rfl) hS (lv_sub hl [0, 1, 2, 3] rfl)
    · refine nt_i 17 ej ?_
      refine lv_tableIn (off := 589) (tgt := 622) hx hb dL_law_33 (by decide +kernel) (by decide +kernel) (by decide +kernel) (by decide +kernel) ?_
      exact law_c17 l C0 hC hA hAs hbA q0 a_3 a_6 a_8 a_10 a_12 a_13 a_27 a_31 a_32 a_25 a_5 a_64 a_65 a_66 a_67 a_68 a_69 a_70 a_71 a_72 q8 a_81 a_100 a_82 a_83 a_84 a_85 a_86 a_101 a_102 a_103 a_104 a_105 a_106 a_107 a_108 a_87 a_88 a_89 a_109 a_90 a_91 a_92 a_110 a_111 a_112 a_93 a_94 a_113 a_95 a_96 a_97 a_114 a_115 a_116 a_117 a_118 a_98 a_119 a_99 H locs ls (hP.sub [0, 23, 34, 39] rfl) (hD.sub [0, 23, 34, 39] (by decide +kernel) rfl) hS (lv_sub hl [0, 1, 2, 3] rfl)
    · refine nt_i 18 ej ?_
      refine lv_tableIn (off := 622) (tgt := 655) hx hb dL_law_33 (by decide +kernel) (by decide +kernel) (by decide +kernel) (by decide +kernel) ?_
      exact law_c18 l C0 hC hA hAs hbA q0 a_3 a_6 a_8 a_10 a_12 a_13 a_27 a_31 a_32 a_25 a_5 a_28 a_29 a_30 (fun _ => 0) (fun _ => 0) (fun _ => 0) q8 a_81 a_100 a_82 a_83 a_84 a_85 a_86 a_101 a_102 a_103 a_104 a_105 a_106 a_107 a_108 a_87 a_88 a_89 a_109 a_90 a_91 a_92 a_110 a_111 a_112 a_93 a_94 a_113 a_95 a_96 a_97 a_114 a_115 a_116 a_117 a_118 a_98 a_119 a_99 (fun _ => 0) (fun _ => 0) (fun _ => 0) H locs ls (hP.sub [0, 25, 26, 27, 28, 34, 49, 50, 51] rfl) (hD.sub [0, 25, 26, 27, 28, 34, 49, 50, 51] (by decide +kernel) rfl) hS (lv_sub hl [0, 1, 2, 3] rfl)
    · refine nt_i 19 ej ?_
      refine lv_tableIn (off := 665) (tgt := 698) hx hb dL_law_33 (by decide +kernel) (by decide +kernel) (by decide +kernel) (by decide +kernel) ?_
      exact law_c19 l C0 hC hA hAs hbA q0 a_3 a_6 a_8 a_10 a_12 a_13 a_27 a_31 a_32 a_25 a_5 a_28 a_29 a_30 q8 a_81 a_100 a_82 a_83 a_84 a_85 a_86 a_101 a_102 a_103 a_104 a_105 a_106 a_107 a_108 a_87 a_88 a_89 a_109 a_90 a_91 a_92 a_110 a_111 a_112 a_93 a_94 a_113 a_95 a_96 a_97 a_114 a_115 a_116 a_117 a_118 a_98 a_119 a_99 H locs ls (hP.sub [0, 25, 34] rfl) (hD.sub [0, 25, 34] (by decide +kernel) rfl) hS (lv_sub hl [0, 1, 2, 3] rfl)
    · refine nt_i 20 ej ?_
      refine lv_tableIn (off := 678) (tgt := 711) hx hb dL_law_33 (by decide +kernel) (by decide +kernel) (by decide +kernel) (by decide +kernel) ?_
      exact law_c20 l C0 hC hA hAs hbA q0 a_3 a_6 a_8 a_10 a_12 a_13 a_27 a_31 a_32 a_25 a_5 a_28 a_29 a_30 q8 a_81 a_100 a_82 a_83 a_84 a_85 a_86 a_101 a_102 a_103 a_104 a_105 a_106 a_107 a_108 a_87 a_88 a_89 a_109 a_90 a_91 a_92 a_110 a_111 a_112 a_93 a_94 a_113 a_95 a_96 a_97 a_114 a_115 a_116 a_117 a_118 a_98 a_119 a_99 H locs ls (hP.sub [0, 25, 34] rfl) (hD.sub [0, 25, 34] (by decide +kernel) rfl) hS (lv_sub hl [0, 1, 2, 3] rfl)
    · refine nt_i 21 ej ?_
      refine lv_tableIn (off := 691) (tgt := 724) hx hb dL_law_33 (by decide +kernel) (by decide +kernel) (by decide +kernel) (by decide +kernel) ?_
      exact law_c21 l C0 hC hA hAs hbA q0 a_3 a_6 a_8 a_10 a_12 a_13 a_27 a_31 a_32 a_25 a_5 a_64 a_65 a_66 a_67 a_68 a_69 a_70 a_71 a_72 q8 a_81 a_100 a_82 a_83 a_84 a_85 a_86 a_101 a_102 a_103 a_104 a_105 a_106 a_107 a_108 a_87 a_88 a_89 a_109 a_90 a_91 a_92 a_110 a_111 a_112 a_93 a_94 a_113 a_95 a_96 a_97 a_114 a_115 a_116 a_117 a_118 a_98 a_119 a_99 H locs ls (hP.sub [0, 23, 34, 39] rfl) (hD.sub [0, 23, 34, 39] (by decide +kernel) rfl) hS (lv_sub hl [0, 1, 2, 3] rfl)
    · refine nt_i 22 ej ?_
      refine lv_tableIn (off := 750) (tgt := 783) hx hb dL_law_33 (by decide +kernel) (by decide +kernel) (by decide +kernel) (by decide +kernel) ?_
      exact law_c22 l C0 hC hA hAs hbA q0 a_3 a_6 a_8 a_10 a_12 a_13 a_27 a_31 a_32 a_25 a_5 a_74 a_75 a_76 a_77 a_78 q8 a_81 a_100 a_82 a_83 a_84 a_85 a_86 a_101 a_102 a_103 a_104 a_105 a_106 a_107 a_108 a_87 a_88 a_89 a_109 a_90 a_91 a_92 a_110 a_111 a_112 a_93 a_94 a_113 a_95 a_96 a_97 a_114 a_115 a_116 a_117 a_118 a_98 a_119 a_99 H locs ls (hP.sub [0, 29, 34] rfl) (hD.sub [0, 29, 34] (by decide +kernel) rfl) hS (lv_sub hl [0, 1, 2, 3] rfl)
    · refine nt_i 23 ej ?_
      refine lv_tableIn (off := 773) (tgt := 806) hx hb dL_law_33 (by decide +kernel) (by decide +kernel) (by decide +kernel) (by decide +kernel) ?_
      exact law_c23 l C0 hC hA hAs hbA q0 a_3 a_6 a_8 a_10 a_12 a_13 a_27 a_31 a_32 a_25 a_5 q8 a_81 a_100 a_82 a_83 a_84 a_85 a_86 a_101 a_102 a_103 a_104 a_105 a_106 a_107 a_108 a_87 a_88 a_89 a_109 a_90 a_91 a_92 a_110 a_111 a_112 a_93 a_94 a_113 a_95 a_96 a_97 a_114 a_115 a_116 a_117 a_118 a_98 a_119 a_99 H locs ls (hP.sub [0, 34] rfl) (hD.sub [0, 34] (by decide +kernel) rfl) hS (lv_sub hl [0, 1, 2, 3] rfl)
    · refine nt_i 24 ej ?_
      refine lv_tableIn (off := 796) (tgt := 829) hx hb dL_law_33 (by decide +kernel) (by decide +kernel) (by decide +kernel) (by decide +kernel) ?_
      exact law_c24 l C0 hC hA hAs hbA q0 a_3 a_6 a_8 a_10 a_12 a_13 a_27 a_31 a_32 a_25 a_5 a_64 a_65 a_66 a_67 a_68 a_69 a_70 a_71 a_72 q8 a_81 a_100 a_82 a_83 a_84 a_85 a_86 a_101 a_102 a_103 a_104 a_105 a_106 a_107 a_108 a_87 a_88 a_89 a_109 a_90 a_91 a_92 a_110 a_111 a_112 a_93 a_94 a_113 a_95 a_96 a_97 a_114 a_115 a_116 a_117 a_118 a_98 a_119 a_99 H locs ls (hP.sub [0, 23, 34, 39] rfl) (hD.sub [0, 23, 34, 39] (by decide +kernel) rfl) hS (lv_sub hl [0, 1, 2, 3] rfl)
    · refine nt_i 25 ej ?_
      refine lv_tableIn (off := 830) (tgt := 863) hx hb dL_law_33 (by decide +kernel) (by decide +kernel) (by decide +kernel) (by decide +kernel) ?_
      exact law_c25 l C0 hC hA hAs hbA q0 a_3 a_6 a_8 a_10 a_12 a_13 a_27 a_31 a_32 a_25 a_5 a_45 a_9 a_46 a_47 a_64 a_65 a_66 a_67 a_68 a_69 a_70 a_71 a_72 f_48 (fun _ => 0) a_14 a_18 a_22 a_16 a_15 a_20 a_19 a_24 a_23 a_53 a_17 a_54 a_55 a_57 a_21 a_58 a_59 a_61 a_26 a_62 a_63 f_56 f_60 f_73 (fun _ => 0) (fun _ => 0) (fun _ => 0) q8 a_81 a_100 a_82 a_83 a_84 a_85 a_86 a_101 a_102 a_103 a_104 a_105 a_106 a_107 a_108 a_87 a_88 a_89 a_109 a_90 a_91 a_92 a_110 a_111 a_112 a_93 a_94 a_113 a_95 a_96 a_97 a_114 a_115 a_116 a_117 a_118 a_98 a_119 a_99 f_120 (fun _ => 0) hu_121 H locs ls (hP.sub [0, 6, 23, 7, 10, 11, 12, 16, 20, 14, 15, 13, 18, 19, 17, 22, 24, 21, 34, 44, 52, 53] rfl) (hD.sub [0, 6, 23, 7, 10, 11, 12, 16, 20, 14, 15, 13, 18, 19, 17, 22, 24, 21, 34, 44, 52, 53] (by decide +kernel) rfl) hS (lv_sub hl [0, 1, 2, 3] rfl)
    · refine nt_i 26 ej ?_
      refine lv_tableIn (off := 853) (tgt := 886) hx hb dL_law_33 (by decide +kernel) (by decide +kernel) (by decide +kernel) (by decide +kernel) ?_
      exact law_c26 l C0 hC hA hAs hbA q0 a_3 a_6 a_8 a_10 a_12 a_13 a_27 a_31 a_32 a_25 a_5 a_14 a_18 a_22 a_16 a_15 a_20 a_19 a_24 a_23 q8 a_81 a_100 a_82 a_83 a_84 a_85 a_86 a_101 a_102 a_103 a_104 a_105 a_106 a_107 a_108 a_87 a_88 a_89 a_109 a_90 a_91 a_92 a_110 a_111 a_112 a_93 a_94 a_113 a_95 a_96 a_97 a_114 a_115 a_116 a_117 a_118 a_98 a_119 a_99 H locs ls (hP.sub [0, 11, 12, 16, 20, 34, 53] rfl) (hD.sub [0, 11, 12, 16, 20, 34, 53] (by decide +kernel) rfl) hS (lv_sub hl [0, 1, 2, 3] rfl)
    · refine nt_i 27 ej ?_
      refine lv_tableIn (off := 876) (tgt := 909) hx hb dL_law_33 (by decide +kernel) (by decide +kernel) (by decide +kernel) (by decide +kernel) ?_
      exact law_c27 l C0 hC hA hAs hbA q0 a_3 a_6 a_8 a_10 a_12 a_13 a_27 a_31 a_32 a_25 a_5 a_64 a_65 a_66 a_67 a_68 a_69 a_70 a_71 a_72 a_45 a_9 a_46 a_47 a_28 a_29 a_30 a_74 a_75 a_76 a_77 a_78 a_4 q8 a_81 a_100 a_82 a_83 a_84 a_85 a_86 a_101 a_102 a_103 a_104 a_105 a_106 a_107 a_108 a_87 a_88 a_89 a_109 a_90 a_91 a_92 a_110 a_111 a_112 a_93 a_94 a_113 a_95 a_96 a_97 a_114 a_115 a_116 a_117 a_118 a_98 a_119 a_99 f_120 hu_121 H locs ls (hP.sub [0, 23, 6, 25, 29, 1, 34, 36, 37, 38, 39, 40, 44] rfl) (hD.sub [0, 23, 6, 25, 29, 1, 34, 36, 37, 38, 39, 40, 44] (by decide +kernel) rfl) hS (lv_sub hl [0, 1, 2, 3] rfl)
    · refine nt_i 28 ej ?_
      refine lv_tableOut (tgt := 932) hx hb dL_law_33 (by decide +kernel) (by decide +kernel) ?_
      refine lv_iinc (v := 6) (lv' := [(3, .int 6), (2, .ref q8), (1, .ref q0), (0, .ref b)]) hx hb dL_law_932 hl (k := 0) rfl (by decide +kernel) (by decide +kernel) rfl (fun ls hl => ?_)
      refine lv_goto (tgt := 18) hx hb dL_law_935 (by decide +kernel) ?_
      refine lv_iload_n hx hb dL_law_18 rfl (lv_at hl 0 rfl) ?_
      refine lv_aload_n hx hb dL_law_19 rfl (lv_at hl 3 rfl) ?_
      refine va_slen hx hb hX hbl hbA hS dL_law_20 ?_
      refine nt_i 6 rfl ?_
      refine lv_bipush (v := 6) hx hb dL_law_21 (by decide +kernel) ?_
      refine lv_isub hx hb dL_law_23 ?_
      refine nt_i 0 (by decide +kernel) ?_
      refine lv_icmp_gt (tgt := 938) hx hb dL_law_24 (by decide +kernel) (fun c_129 => ?_) (fun c_129 => absurd (by decide +kernel) c_129)
      refine lv_iconst (v := 1) hx hb dL_law_938 (by decide +kernel) ?_
      refine va_forget (fun q hq => hAs _ (hS.2.2 q hq)) ?_
      refine W.widen (k := 600000) (n := 7302250) (Nat.le_of_ble_eq_true rfl) (Nat.le_of_ble_eq_true rfl) ?_
      exact lw_ret hx hb hr hlocks dL_law_939
    · refine nt_i 29 ej ?_
      refine lv_tableOut (tgt := 932) hx hb dL_law_33 (by decide +kernel) (by decide +kernel) ?_
      refine lv_iinc (v := 6) (lv' := [(3, .int 6), (2, .ref q8), (1, .ref q0), (0, .ref b)]) hx hb dL_law_932 hl (k := 0) rfl (by decide +kernel) (by decide +kernel) rfl (fun ls hl => ?_)
      refine lv_goto (tgt := 18) hx hb dL_law_935 (by decide +kernel) ?_
      refine lv_iload_n hx hb dL_law_18 rfl (lv_at hl 0 rfl) ?_
      refine lv_aload_n hx hb dL_law_19 rfl (lv_at hl 3 rfl) ?_
      refine va_slen hx hb hX hbl hbA hS dL_law_20 ?_
      refine nt_i 6 rfl ?_
      refine lv_bipush (v := 6) hx hb dL_law_21 (by decide +kernel) ?_
      refine lv_isub hx hb dL_law_23 ?_
      refine nt_i 0 (by decide +kernel) ?_
      refine lv_icmp_gt (tgt := 938) hx hb dL_law_24 (by decide +kernel) (fun c_130 => ?_) (fun c_130 => absurd (by decide +kernel) c_130)
      refine lv_iconst (v := 1) hx hb dL_law_938 (by decide +kernel) ?_
      refine va_forget (fun q hq => hAs _ (hS.2.2 q hq)) ?_
      refine W.widen (k := 600000) (n := 7302250) (Nat.le_of_ble_eq_true rfl) (Nat.le_of_ble_eq_true rfl) ?_
      exact lw_ret hx hb hr hlocks dL_law_939
    · refine nt_i 30 ej ?_
      refine lv_tableOut (tgt := 932) hx hb dL_law_33 (by decide +kernel) (by decide +kernel) ?_
      refine lv_iinc (v := 6) (lv' := [(3, .int 6), (2, .ref q8), (1, .ref q0), (0, .ref b)]) hx hb dL_law_932 hl (k := 0) rfl (by decide +kernel) (by decide +kernel) rfl (fun ls hl => ?_)
      refine lv_goto (tgt := 18) hx hb dL_law_935 (by decide +kernel) ?_
      refine lv_iload_n hx hb dL_law_18 rfl (lv_at hl 0 rfl) ?_
      refine lv_aload_n hx hb dL_law_19 rfl (lv_at hl 3 rfl) ?_
      refine va_slen hx hb hX hbl hbA hS dL_law_20 ?_
      refine nt_i 6 rfl ?_
      refine lv_bipush (v := 6) hx hb dL_law_21 (by decide +kernel) ?_
      refine lv_isub hx hb dL_law_23 ?_
      refine nt_i 0 (by decide +kernel) ?_
      refine lv_icmp_gt (tgt := 938) hx hb dL_law_24 (by decide +kernel) (fun c_131 => ?_) (fun c_131 => absurd (by decide +kernel) c_131)
      refine lv_iconst (v := 1) hx hb dL_law_938 (by decide +kernel) ?_
      refine va_forget (fun q hq => hAs _ (hS.2.2 q hq)) ?_
      refine W.widen (k := 600000) (n := 7302250) (Nat.le_of_ble_eq_true rfl) (Nat.le_of_ble_eq_true rfl) ?_
      exact lw_ret hx hb hr hlocks dL_law_939
    · refine nt_i 31 ej ?_
      refine lv_tableOut (tgt := 932) hx hb dL_law_33 (by decide +kernel) (by decide +kernel) ?_
      refine lv_iinc (v := 6) (lv' := [(3, .int 6), (2, .ref q8), (1, .ref q0), (0, .ref b)]) hx hb dL_law_932 hl (k := 0) rfl (by decide +kernel) (by decide +kernel) rfl (fun ls hl => ?_)
      refine lv_goto (tgt := 18) hx hb dL_law_935 (by decide +kernel) ?_
      refine lv_iload_n hx hb dL_law_18 rfl (lv_at hl 0 rfl) ?_
      refine lv_aload_n hx hb dL_law_19 rfl (lv_at hl 3 rfl) ?_
      refine va_slen hx hb hX hbl hbA hS dL_law_20 ?_
      refine nt_i 6 rfl ?_
      refine lv_bipush (v := 6) hx hb dL_law_21 (by decide +kernel) ?_
      refine lv_isub hx hb dL_law_23 ?_
      refine nt_i 0 (by decide +kernel) ?_
      refine lv_icmp_gt (tgt := 938) hx hb dL_law_24 (by decide +kernel) (fun c_132 => ?_) (fun c_132 => absurd (by decide +kernel) c_132)
      refine lv_iconst (v := 1) hx hb dL_law_938 (by decide +kernel) ?_
      refine va_forget (fun q hq => hAs _ (hS.2.2 q hq)) ?_
      refine W.widen (k := 600000) (n := 7302250) (Nat.le_of_ble_eq_true rfl) (Nat.le_of_ble_eq_true rfl) ?_
      exact lw_ret hx hb hr hlocks dL_law_939
