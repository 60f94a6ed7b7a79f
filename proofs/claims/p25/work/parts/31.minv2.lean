/-! LOCKS, CHOICES, TICKS -/
theorem ne_i {x a b : Int32} (h : x = a) (d : ¬ a = b) : ¬ x = b := fun e => d (h.symm.trans e)
def PB2 (kb kn : Nat) (fki fev fbu : Nat → Int32) : Prop := ∀ t, t < kn → 3 ≤ fki (10 * kb + t) → (∃ e, 1 ≤ e ∧ e ≤ 20 ∧ fev (10 * kb + t) = nI e) ∧ (∃ b, b ≤ 99 ∧ fbu (10 * kb + t) = nI b)
def PB3 (kb kn : Nat) (fsh : Nat → Int32) : Prop := ∀ t, t < kn → ¬ fsh (10 * kb + t) = 0
theorem PI.zz {kn kp : Nat} {f pl : Nat → Int32} (hk : kn ≤ 10) (h : kp = 0) : PI kn kp f pl := by subst h; exact PI.z hk
def LO (kn : Nat) (ml : Nat → Nat) (k : Nat) (f g : Nat → Int32) (kq : Nat) (ql : Nat → Int32) : Prop := AI 100 kn ml g ∧ KR k kn f g ∧ PI kn kq g ql
theorem lo_dn {kn k kp kq : Nat} {ml : Nat → Nat} {f f1 g ql : Nat → Int32} (h : KR k kn f f1) (d : DN kn ml k f1 g kp kq ql) : LO kn ml k f g kq ql := ⟨d.1, h.tr d.2.1, d.2.2.1⟩
theorem dn_kr {kn k kp kq : Nat} {ml : Nat → Nat} {f g ql : Nat → Int32} (d : DN kn ml k f g kp kq ql) (h : ¬ f (32 * k + 0) = 0) : KR 100 kn f g := by
  refine ⟨fun u hu _ e => ?_, d.2.1.2⟩
  by_cases e2 : u = k
  · subst e2; exact absurd e h
  · exact d.2.1.1 u hu e2 e
theorem lo_st {kn k kp : Nat} {ml : Nat → Nat} {f pl : Nat → Int32} {v w : Int32} (h : AI 100 kn ml f) (hkn : kn ≤ 10) (hk : k < kn) (hs : f (32 * k + 0) = 0) (hv : ¬ v = 1) (hp : PI kn kp f pl) : LO kn ml k f (upd (upd f (32 * k + 0) v) (32 * k + 9) w) kp pl := by
  have h4 : ¬ f (32 * k + 0) = 4 := by rw [hs]; decide +kernel
  have hg : ∀ u, u < kn → u ≠ k → (upd (upd f (32 * k + 0) v) (32 * k + 9) w) (32 * u + 0) = f (32 * u + 0) := fun u hu hx => by rw [pk_un (by omega), pk_un (by omega)]
  refine ⟨?_, dn_K hg (by rw [pk_un (by omega), pk_un (by omega)]), ⟨by have := dn_0 hg h4; have := hp.1; omega, hp.2⟩⟩
  exact (h.st hkn hk hv (Or.inr (Or.inr (h.opx hkn hk h4)))).fr hkn hk (Or.inr (by rw [pk_us]; exact hv))
theorem AI.hold {kn l : Nat} {ml : Nat → Nat} {f : Nat → Int32} (h : AI 100 kn ml f) (hl : l < 6) (c : 0 ≤ f (320 + l)) : ∃ q, q < kn ∧ f (320 + l) = nI q := by
  rcases h.2.2.2.1 l hl with e | e
  · rw [e] at c; exact absurd c (by decide +kernel)
  · exact e
def RG (k : Nat) (f g : Nat → Int32) : Prop := ∀ i, ¬ (32 * k + 15 ≤ i ∧ i < 32 * k + 32) → g i = f i
theorem RG.up {k i : Nat} {f g : Nat → Int32} {v : Int32} (h : RG k f g) (hi : 32 * k + 15 ≤ i ∧ i < 32 * k + 32) : RG k f (upd g i v) := fun j hj => by rw [pk_un (by omega)]; exact h j hj
theorem RG.z {k : Nat} {f : Nat → Int32} {v : Int32} : RG k f (upd f (32 * k + 15) v) := RG.up (fun _ _ => rfl) ⟨by omega, by omega⟩
theorem RG.ai {kn k : Nat} {ml : Nat → Nat} {f g : Nat → Int32} (h : AI 100 kn ml f) (hkn : kn ≤ 10) (hk : k < kn) (r : RG k f g) : AI 100 kn ml g := h.cg hkn fun i hi => r i (by unfold rel at hi; omega)
theorem RG.ks {kn k : Nat} {f g : Nat → Int32} (hkn : kn ≤ 10) (hk : k < kn) (r : RG k f g) : KS kn f g := ⟨fun u hu => r _ (by omega), r _ (by omega)⟩
def CH (kn k q0 : Nat) (f : Nat → Int32) (jh : Nat) : Prop := ∃ P : Nat → Bool, P k = false ∧ (P q0 = true ∨ jh = q0) ∧ ∀ u, P u = true → ∀ c q, c < 6 → q < kn → f (32 * u + 0) = 1 → f (32 * u + 9) = nI c → f (320 + c) = nI q → (P q = true ∨ q = jh)
theorem CH.z {kn k q0 : Nat} {f : Nat → Int32} : CH kn k q0 f q0 := ⟨fun _ => false, rfl, Or.inr rfl, fun u h => (Bool.false_ne_true h).elim⟩
theorem CH.step {kn k q0 jh c q : Nat} {f : Nat → Int32} (h : CH kn k q0 f jh) (hkn : kn ≤ 10) (hn : ¬ jh = k) (hc : c < 6) (hq : q < kn) (e1 : f (32 * jh + 9) = nI c) (e2 : f (320 + c) = nI q) : CH kn k q0 f q := by
  obtain ⟨P, h1, h2, h3⟩ := h
  refine ⟨fun u => P u || decide (u = jh), ?_, Or.inl ?_, fun u hu c2 q2 hc2 hq2 hs hf hd => ?_⟩
  · show (P k || decide (k = jh)) = false
    rw [h1, decide_eq_false (fun e => hn e.symm)]; rfl
  · show (P q0 || decide (q0 = jh)) = true
    rcases h2 with h2 | h2
    · rw [h2]; rfl
    · rw [decide_eq_true h2.symm, Bool.or_true]
  · rcases (Bool.or_eq_true _ _).mp hu with hu | hu
    · rcases h3 u hu c2 q2 hc2 hq2 hs hf hd with h4 | h4
      · exact Or.inl ((Bool.or_eq_true _ _).mpr (Or.inl h4))
      · exact Or.inl ((Bool.or_eq_true _ _).mpr (Or.inr (decide_eq_true h4)))
    · obtain rfl := of_decide_eq_true hu
      obtain rfl : c2 = c := nI_inj (hf.symm.trans e1) (by omega) (by omega)
      exact Or.inr (nI_inj (hd.symm.trans e2) (by omega) (by omega))
theorem lo_lock {kn k l q0 jh kp : Nat} {ml : Nat → Nat} {f g pl : Nat → Int32} (h : AI 100 kn ml f) (hkn : kn ≤ 10) (hk : k < kn) (hl : l < 6) (hs : f (32 * k + 0) = 0) (hq0 : q0 < kn) (e0 : f (320 + l) = nI q0) (hp : PI kn kp f pl) (r : RG k f g) (ch : CH kn k q0 f jh) (hj : jh < kn) (hn : ¬ jh = k) (hw : ¬ g (32 * jh + 0) = 1) :
    LO kn ml k f (upd (upd g (32 * k + 0) 1) (32 * k + 9) (nI l)) kp pl := by
  have hw2 : ¬ f (32 * jh + 0) = 1 := by rw [r _ (by omega)] at hw; exact hw
  have ks := r.ks hkn hk
  obtain ⟨P, h1, h2, h3⟩ := ch
  have hg : ∀ u, u < kn → u ≠ k → (upd (upd g (32 * k + 0) 1) (32 * k + 9) (nI l)) (32 * u + 0) = f (32 * u + 0) := fun u hu hx => by rw [pk_un (by omega), pk_un (by omega)]; exact ks.1 u hu
  have h4 : ¬ f (32 * k + 0) = 4 := by rw [hs]; decide +kernel
  refine ⟨?_, dn_K hg (by rw [pk_un (by omega), pk_un (by omega)]; exact ks.2), ⟨by have := dn_0 hg h4; have := hp.1; omega, hp.2⟩⟩
  refine AI.lock (P := fun u => P u || decide (u = jh)) (h0 := q0) (r.ai h hkn hk) hkn hl hk (by rw [ks.1 k hk]; exact hs) (by rw [r _ (by omega)]; exact e0) hq0 ?_ ?_ (fun u c q hu hc hq hP hs1 hf hd => ?_)
  · show (P q0 || decide (q0 = jh)) = true
    rcases h2 with h2 | h2
    · rw [h2]; rfl
    · rw [decide_eq_true h2.symm, Bool.or_true]
  · show (P k || decide (k = jh)) = false
    rw [h1, decide_eq_false (fun e => hn e.symm)]; rfl
  · rw [r _ (by omega)] at hs1 hf hd
    rcases (Bool.or_eq_true _ _).mp hP with hP | hP
    · rcases h3 u hP c q hc hq hs1 hf hd with h5 | h5
      · exact (Bool.or_eq_true _ _).mpr (Or.inl h5)
      · exact (Bool.or_eq_true _ _).mpr (Or.inr (decide_eq_true h5))
    · obtain rfl := of_decide_eq_true hP
      exact absurd hs1 hw2
theorem ge_no {x y a : Int32} (h : a ≤ x) (e : x = y) (d : ¬ a ≤ y) : False := d (e ▸ h)
/-- a task is chosen: its bit -/
def bt (r : Int32) (j : Nat) : Prop := (r >>> (nI j &&& 31)) &&& 1 = 1
theorem bt_or (x y : Int32) {j : Nat} (hj : j < 10) : (((x ||| y) >>> (nI j &&& 31)) &&& 1) = ((x >>> (nI j &&& 31)) &&& 1) ||| ((y >>> (nI j &&& 31)) &&& 1) := by
  have h : ∀ n : Nat, n < 32 → (x ||| y) >>> (Int32.ofNat n) = (x >>> (Int32.ofNat n)) ||| (y >>> (Int32.ofNat n)) := by
    intro n hn
    apply Int32.toBitVec_inj.mp
    simp only [Int32.toBitVec_or, Int32.toBitVec_shiftRight]
    ext i hi
    simp [BitVec.getElem_sshiftRight]
    split <;> simp_all
  have e : ∀ k, k < 10 → nI k &&& 31 = Int32.ofNat k := by decide +kernel
  rw [e j hj, h _ (by omega)]
  apply Int32.toBitVec_inj.mp
  simp only [Int32.toBitVec_or, Int32.toBitVec_and]
  ext i hi
  simp [Bool.and_or_distrib_right]
theorem bt_one (x : Int32) : x &&& 1 = 0 ∨ x &&& 1 = 1 := by
  rcases Nat.mod_two_eq_zero_or_one x.toBitVec.toNat with h | h
  · left
    apply Int32.toBitVec_inj.mp
    apply BitVec.eq_of_toNat_eq
    show (x.toBitVec &&& 1#32).toNat = 0
    rw [BitVec.toNat_and]
    show x.toBitVec.toNat &&& 1 = 0
    rw [Nat.and_one_is_mod]; exact h
  · right
    apply Int32.toBitVec_inj.mp
    apply BitVec.eq_of_toNat_eq
    show (x.toBitVec &&& 1#32).toNat = 1
    rw [BitVec.toNat_and]
    show x.toBitVec.toNat &&& 1 = 1
    rw [Nat.and_one_is_mod]; exact h
theorem bt_l {x y : Int32} {j : Nat} (hj : j < 10) (h : bt x j) : bt (x ||| y) j := by
  unfold bt at *
  rw [bt_or x y hj, h]
  rcases bt_one (y >>> (nI j &&& 31)) with e | e <;> rw [e] <;> decide +kernel
theorem bt_sh : ∀ j, j < 10 → (((1 : Int32) <<< (nI j &&& 31)) >>> (nI j &&& 31)) &&& 1 = 1 := by decide +kernel
theorem bt_r {x : Int32} {j : Nat} (hj : j < 10) : bt (x ||| ((1 : Int32) <<< (nI j &&& 31))) j := by
  unfold bt
  rw [bt_or _ _ hj, bt_sh j hj]
  rcases bt_one (x >>> (nI j &&& 31)) with e | e <;> rw [e] <;> decide +kernel
def PS (n : Nat) (fp : Nat → Int32) (r : Int32) : Prop := ∀ q, q < n → ∀ j, j < 10 → fp q = nI j → bt r j
theorem PS.z {fp : Nat → Int32} {r : Int32} : PS 0 fp r := fun q h => by omega
theorem PS.n {n : Nat} {fp : Nat → Int32} {r y : Int32} (h : PS n fp r) (c : ¬ 0 ≤ fp n) (e : y = r ||| 0) : PS (n + 1) fp y := by
  intro q hq j hj hf
  subst e
  by_cases e2 : q = n
  · subst e2; rw [hf] at c; exact absurd (nI_pos' (by omega)) c
  · exact bt_l hj (h q (by omega) j hj hf)
theorem PS.s {n : Nat} {fp : Nat → Int32} {r y y1 : Int32} (h : PS n fp r) (e1 : y1 = (1 : Int32) <<< (fp n &&& 31)) (e : y = r ||| y1) : PS (n + 1) fp y := by
  intro q hq j hj hf
  subst e; subst e1
  by_cases e2 : q = n
  · subst e2; rw [hf]; exact bt_r hj
  · exact bt_l hj (h q (by omega) j hj hf)
/-- what a row of choices is -/
def PK (kn : Nat) (fp fa : Nat → Int32) : Prop := (∀ q, q < 4 → (fp q = -1 ∨ ∃ t, t < kn ∧ fp q = nI t ∧ fa (32 * t + 0) = 0)) ∧ ∀ q p, q < p → p < 4 → ∀ t, t < kn → fp q = nI t → fp p = nI t → False
def PKp (kn n : Nat) (fp fa : Nat → Int32) : Prop := PK kn fp fa ∧ ∀ q, n ≤ q → q < 4 → fp q = -1
theorem PKp.z {kn : Nat} {fp fa : Nat → Int32} (hkn : kn ≤ 10) (h : ∀ q, q < 4 → fp q = -1) : PKp kn 0 fp fa := ⟨⟨fun q hq => Or.inl (h q hq), fun q p hq hp t ht e _ => by rw [h q (by omega)] at e; exact nI_neg (by omega) e.symm⟩, fun q _ hq => h q hq⟩
def BS (kn : Nat) (fa : Nat → Int32) (r b : Int32) : Prop := b = -1 ∨ ∃ t, t < kn ∧ b = nI t ∧ fa (32 * t + 0) = 0 ∧ ¬ bt r t
theorem BS.nat {kn : Nat} {fa : Nat → Int32} {r b : Int32} (h : BS kn fa r b) (c : ¬ b < 0) : ∃ t, t < kn ∧ b = nI t := by
  rcases h with h | ⟨t, h1, h2, -⟩
  · subst h; exact absurd (by decide +kernel) c
  · exact ⟨t, h1, h2⟩
theorem BS.set {kn t : Nat} {fa : Nat → Int32} {r y1 y2 : Int32} (ht : t < kn) (hs : fa (32 * t + 0) = 0) (e1 : y1 = r >>> (nI t &&& 31)) (e2 : y2 = y1 &&& 1) (c : ¬ y2 = 1) : BS kn fa r (nI t) := Or.inr ⟨t, ht, rfl, hs, fun h => c (by rw [e2, e1]; exact h)⟩
theorem PKp.up {kn kc n : Nat} {fp fa : Nat → Int32} {r b : Int32} (h : PKp kn n fp fa) (hkn : kn ≤ 10) (hn : n < kc) (hkc : kc ≤ 4) (hs : PS kc fp r) (hb : BS kn fa r b) : PKp kn (n + 1) (upd fp n b) fa := by
  obtain ⟨⟨h1, h2⟩, h3⟩ := h
  refine ⟨⟨fun q hq => ?_, fun q p hqp hp t ht e1 e2 => ?_⟩, fun q h4 h5 => by rw [pk_un (by omega)]; exact h3 q (by omega) h5⟩
  · by_cases e : q = n
    · subst e
      rw [pk_us]
      rcases hb with hb | ⟨t, a, b1, c, -⟩
      · exact Or.inl hb
      · exact Or.inr ⟨t, a, b1, c⟩
    · rw [pk_un e]; exact h1 q hq
  · by_cases eq : q = n
    · subst eq
      rw [pk_un (by omega), h3 p (by omega) hp] at e2
      exact nI_neg (by omega) e2.symm
    · rw [pk_un eq] at e1
      by_cases ep : p = n
      · subst ep
        rw [pk_us] at e2
        rcases hb with hb | ⟨t2, a, b1, c, d⟩
        · rw [hb] at e2; exact nI_neg (by omega) e2.symm
        · obtain rfl : t2 = t := nI_inj (b1.symm.trans e2) (by omega) (by omega)
          exact d (hs q (by omega) t2 (by omega) e1)
      · rw [pk_un ep] at e2
        exact h2 q p hqp hp t ht e1 e2
def PQ (kn : Nat) (fp : Nat → Int32) : Prop := ∀ q, q < 4 → (fp q = -1 ∨ ∃ t, t < kn ∧ fp q = nI t)
theorem PK.pq {kn : Nat} {fp fa : Nat → Int32} (h : PK kn fp fa) : PQ kn fp := fun q hq => (h.1 q hq).elim Or.inl (fun ⟨t, a, b, _⟩ => Or.inr ⟨t, a, b⟩)
theorem PQ.nat {kn q : Nat} {fp : Nat → Int32} (h : PQ kn fp) (hq : q < 4) (c : 0 ≤ fp q) : ∃ t, t < kn ∧ fp q = nI t := by
  rcases h q hq with e | e
  · rw [e] at c; exact absurd c (by decide +kernel)
  · exact e
/-- those that are yet to run are READY -/
def PKr (kn n : Nat) (fp fa : Nat → Int32) : Prop := ∀ q, n ≤ q → q < 4 → (fp q = -1 ∨ ∃ t, t < kn ∧ fp q = nI t ∧ fa (32 * t + 0) = 0)
theorem PKr.nat {kn n : Nat} {fp fa : Nat → Int32} (h : PKr kn n fp fa) (hn : n < 4) (c : 0 ≤ fp n) : ∃ t, t < kn ∧ fp n = nI t ∧ fa (32 * t + 0) = 0 := by
  rcases h n (Nat.le_refl _) hn with e | e
  · rw [e] at c; exact absurd c (by decide +kernel)
  · exact e
theorem PKr.s {kn n : Nat} {fp fa : Nat → Int32} (h : PKr kn n fp fa) : PKr kn (n + 1) fp fa := fun q h1 h2 => h q (by omega) h2
theorem PKr.up {kn n t : Nat} {fp fa f0 g g2 : Nat → Int32} (h : PKr kn n fp fa) (d : PK kn fp f0) (ht : t < kn) (hn : n < 4) (e : fp n = nI t) (k1 : KR t kn fa g) (k2 : KR 100 kn g g2) (hkn : kn ≤ 10) : PKr kn (n + 1) fp g2 := by
  intro q h1 h2
  rcases h q (by omega) h2 with h3 | ⟨u, hu, e1, e2⟩
  · exact Or.inl h3
  · refine Or.inr ⟨u, hu, e1, k2.1 u hu (by omega) (k1.1 u hu ?_ e2)⟩
    intro e3
    subst e3
    exact d.2 n q (by omega) h2 u hu e e1
theorem PK.r {kn : Nat} {fp fa g : Nat → Int32} (h : PK kn fp fa) (k : KS kn fa g) : PKr kn 0 fp g := fun q _ hq => (h.1 q hq).elim Or.inl (fun ⟨t, a, b, c⟩ => Or.inr ⟨t, a, b, (k.1 t a).trans c⟩)
