/-! A KERNEL READ -/
theorem op_tr {kr ko k2 : Nat} {f g : Nat → Int32} (h : ko ≤ k2) (e : ∃ k3 : Nat, k2 ≤ k3 ∧ k3 ≤ 90 ∧ f kr = nI k3 ∧ ON kr k3 g) : ∃ k3 : Nat, ko ≤ k3 ∧ k3 ≤ 90 ∧ f kr = nI k3 ∧ ON kr k3 g := by
  obtain ⟨k3, a, b⟩ := e
  exact ⟨k3, by omega, b⟩
theorem two_w {x a b : Int64} {y1 y2 : Int32} (h1 : y1 = 0) (e1 : y1 = lg_cmp x a) (h2 : y2 = 0) (e2 : y2 = lg_cmp x b) (d : ¬ a = b) : False := d ((lcmp_e2 h1 e1).symm.trans (lcmp_e2 h2 e2))
def MI (kb : Nat) (ftk fco flo fmy ffi fnu fki fev fbu fsh fa fbx fba : Nat → Int32) : Prop := ∃ (kn kc kl : Nat) (ml fs : Nat → Nat) (kw : Nat), ftk kb = nI kn ∧ kn ≤ 10 ∧ fco kb = nI kc ∧ kc ≤ 4 ∧ flo kb = nI kl ∧ kl ≤ 6 ∧ PL1 kb kn ml fs fmy ffi fnu ∧ PB2 kb kn fki fev fbu ∧ PB3 kb kn fsh ∧ AI 100 kn ml fa ∧ fa 330 = nI kw ∧ kw ≤ 2000 ∧ BX kn ml fbx fba
theorem mi_f {kb kr : Nat} {ftk gtk fco gco flo glo fmy gmy ffi gfi fnu gnu fki gki fev gev fbu gbu fsh gsh fa fbx fba : Nat → Int32} (h : MI kb ftk fco flo fmy ffi fnu fki fev fbu fsh fa fbx fba) (hb : kb + kr = 1) (f7 : F7 kr ftk gtk fnu gnu fmy gmy ffi gfi fki gki fev gev fbu gbu fsh gsh) (c : FM kr (kr + 1) fco gco) (d : FM kr (kr + 1) flo glo) : MI kb gtk gco glo gmy gfi gnu gki gev gbu gsh fa fbx fba := by
  obtain ⟨kn, kc, kl, ml, fs, kw, h1, h2, h3, h4, h5, h6, h7, h8, h9, h10⟩ := h
  obtain ⟨a1, a2, a3, a4, a5, a6, a7, a8⟩ := f7
  exact ⟨kn, kc, kl, ml, fs, kw, (a1 kb (by omega)).trans h1, h2, (c kb (by omega)).trans h3, h4, (d kb (by omega)).trans h5, h6, h7.fm h2 hb a3 a4 a2, h8.fm h2 hb a5 a6 a7, h9.fm h2 hb a8, h10⟩
theorem mi_s {kr t2 k2 : Nat} {ftk fco flo fmy ffi fnu fki fev fbu fsh fa fbx fba : Nat → Int32} (h1 : t2 ≤ 10) (h2 : k2 ≤ 90) (h3 : ftk kr = nI t2) (h5 : ON kr k2 fnu) (h6 : TP kr t2 k2 fmy ffi fki fev fbu fsh) (hc : CO kr 4 fco) (hl : CO kr 6 flo) (ha : AI 100 t2 (fun t => (fmy (10 * kr + t)).toNatClampNeg) fa) (hw : fa 330 = nI 0) (hb : ∀ q, q < 3 → fbx q = 0) : MI kr ftk fco flo fmy ffi fnu fki fev fbu fsh fa fbx fba := by
  obtain ⟨kc, hc1, hc2⟩ := hc
  obtain ⟨kl, hl1, hl2⟩ := hl
  exact ⟨t2, kc, kl, _, _, 0, h3, h1, hc2, hc1, hl2, hl1, h6.pl1 h5 h2, h6.pb2, h6.pb3, ha, hw, by omega, fun b hb3 hne => absurd (hb b hb3) hne⟩
theorem CO.up {kr m c : Nat} {f : Nat → Int32} (h : c ≤ m) : CO kr m (upd f kr (nI c)) := ⟨c, h, pk_us⟩
theorem RM_0 {a b : Nat} {t fk : Int32} : RM a b t fk < RM a b t fk + 1 := Nat.lt_succ_self _
