/-! READING A TEXT -/
def sgn (n : Nat) (f : Nat → Int32) (k : Nat) : Int32 := if k < n then f k &&& 255 else 0
theorem sgn_1 {n k : Nat} {f : Nat → Int32} {y : Int32} (h : k < n) (e : y = f k &&& 255) : y = sgn n f k := by unfold sgn; rw [if_pos h]; exact e
theorem sgn_0 {n k : Nat} {f : Nat → Int32} (h : ¬ k < n) : 0 = sgn n f k := by unfold sgn; rw [if_neg h]
theorem sgn_lt {n k : Nat} {f : Nat → Int32} {a : Int32} (d : a ≤ sgn n f k) (ha : ¬ a ≤ 0) : k < n := by
  unfold sgn at d
  by_cases h : k < n
  · exact h
  · rw [if_neg h] at d; exact absurd d ha
/-- the reader's place and token go on: never back -/
def GS (ksz e : Nat) (t : Int32) (e2 : Nat) (t2 : Int32) : Prop := e2 ≤ ksz ∧ ((e2 = e ∧ t2 = t) ∨ e < e2 ∨ (e2 = ksz ∧ t2 = 0))
def GP (ksz e e2 : Nat) (t2 : Int32) : Prop := e2 ≤ ksz ∧ (e < e2 ∨ (e2 = ksz ∧ t2 = 0))
theorem GS.rf {ksz e : Nat} {t : Int32} (h : e ≤ ksz) : GS ksz e t e t := ⟨h, Or.inl ⟨rfl, rfl⟩⟩
theorem GP.gs {ksz e e2 : Nat} {t t2 : Int32} (h : GP ksz e e2 t2) : GS ksz e t e2 t2 := ⟨h.1, Or.inr h.2⟩
theorem GS.tr {ksz e e1 e2 : Nat} {t t1 t2 : Int32} (a : GS ksz e t e1 t1) (b : GS ksz e1 t1 e2 t2) : GS ksz e t e2 t2 := by
  obtain ⟨a1, a2⟩ := a
  obtain ⟨b1, b2⟩ := b
  refine ⟨b1, ?_⟩
  rcases b2 with ⟨rfl, rfl⟩ | b2 | b2
  · exact a2
  · rcases a2 with ⟨rfl, rfl⟩ | a2 | ⟨a2, -⟩
    · exact Or.inr (Or.inl b2)
    · exact Or.inr (Or.inl (by omega))
    · omega
  · exact Or.inr (Or.inr b2)
theorem GS.gp {ksz e e1 e2 : Nat} {t t1 t2 : Int32} (a : GS ksz e t e1 t1) (b : GP ksz e1 e2 t2) : GP ksz e e2 t2 := by
  obtain ⟨a1, a2⟩ := a
  obtain ⟨b1, b2⟩ := b
  refine ⟨b1, ?_⟩
  rcases b2 with b2 | b2
  · rcases a2 with ⟨rfl, rfl⟩ | a2 | ⟨a2, -⟩
    · exact Or.inl b2
    · exact Or.inl (by omega)
    · omega
  · exact Or.inr b2
theorem GP.tr {ksz e e1 e2 : Nat} {t1 t2 : Int32} (a : GP ksz e e1 t1) (b : GS ksz e1 t1 e2 t2) : GP ksz e e2 t2 := by
  obtain ⟨a1, a2⟩ := a
  obtain ⟨b1, b2⟩ := b
  refine ⟨b1, ?_⟩
  rcases b2 with ⟨rfl, rfl⟩ | b2 | b2
  · exact a2
  · rcases a2 with a2 | ⟨a2, -⟩
    · exact Or.inl (by omega)
    · omega
  · exact Or.inr b2
theorem lcmp_e2 {x z : Int64} {y : Int32} (h : y = 0) (e : y = lg_cmp x z) : x = z := by
  rw [h] at e
  unfold lg_cmp at e
  by_cases h1 : x > z
  · rw [if_pos h1] at e; exact absurd e (by decide +kernel)
  · rw [if_neg h1] at e
    by_cases h2 : x = z
    · exact h2
    · rw [if_neg h2] at e; exact absurd e (by decide +kernel)
theorem lcmp_n2 {x z : Int64} {y : Int32} (h : ¬ y = 0) (e : y = lg_cmp x z) : ¬ x = z := by
  intro e2
  subst e2
  refine h (e.trans ?_)
  unfold lg_cmp
  simp
def Z2 (f : Nat → Int32) : Prop := ∀ k, k < 2 → (f k = 0 ∨ f k = 1)
theorem Z2.u0 {f : Nat → Int32} {j : Nat} (h : Z2 f) : Z2 (upd f j 0) := fun k hk => if e : k = j then (by subst e; exact Or.inl pk_us) else (by rw [pk_un e]; exact h k hk)
theorem Z2.u1 {f : Nat → Int32} {j : Nat} (h : Z2 f) : Z2 (upd f j 1) := fun k hk => if e : k = j then (by subst e; exact Or.inr pk_us) else (by rw [pk_un e]; exact h k hk)
/-- nothing changes beside lo .. hi -/
def FM (lo hi : Nat) (f g : Nat → Int32) : Prop := ∀ i, ¬ (lo ≤ i ∧ i < hi) → g i = f i
theorem FM.rf {lo hi : Nat} {f : Nat → Int32} : FM lo hi f f := fun _ _ => rfl
theorem FM.tr {lo hi : Nat} {f g h : Nat → Int32} (a : FM lo hi f g) (b : FM lo hi g h) : FM lo hi f h := fun i hi => (b i hi).trans (a i hi)
theorem FM.up {lo hi j : Nat} {f g : Nat → Int32} {v : Int32} (a : FM lo hi f g) (h : lo ≤ j ∧ j < hi) : FM lo hi f (upd g j v) := fun i hi => by rw [pk_un (by omega)]; exact a i hi
/-- the operations read so far -/
def ON (kr ko : Nat) (fnu : Nat → Int32) : Prop := ∀ j, j < ko → ∃ v, v ≤ 99 ∧ fnu (90 * kr + j) = nI v
theorem ON.up {kr ko v : Nat} {fnu : Nat → Int32} (h : ON kr ko fnu) (hv : v ≤ 99) : ON kr (ko + 1) (upd fnu (90 * kr + ko) (nI v)) := fun j hj => if e : j = ko then (by subst e; exact ⟨v, hv, pk_us⟩) else (by rw [pk_un (by omega)]; exact h j (by omega))
/-- the tasks read so far -/
def TP (kr kt ko : Nat) (fmy ffi fki fev fbu fsh : Nat → Int32) : Prop := ∀ t, t < kt → (∃ m s, fmy (10 * kr + t) = nI m ∧ ffi (10 * kr + t) = nI s ∧ s + m ≤ ko) ∧ ¬ fsh (10 * kr + t) = 0 ∧ (3 ≤ fki (10 * kr + t) → (∃ e, 1 ≤ e ∧ e ≤ 20 ∧ fev (10 * kr + t) = nI e) ∧ (∃ b, b ≤ 99 ∧ fbu (10 * kr + t) = nI b))
theorem TP.z {kr ko : Nat} {fmy ffi fki fev fbu fsh : Nat → Int32} : TP kr 0 ko fmy ffi fki fev fbu fsh := fun t h => by omega
theorem TP.mn {kr kt ko k2 : Nat} {fmy ffi fki fev fbu fsh : Nat → Int32} (h : TP kr kt ko fmy ffi fki fev fbu fsh) (hk : ko ≤ k2) : TP kr kt k2 fmy ffi fki fev fbu fsh := fun t ht => by
  obtain ⟨⟨m, s, a, b, c⟩, d⟩ := h t ht
  exact ⟨⟨m, s, a, b, by omega⟩, d⟩
theorem TP.up {kr kt ko k2 : Nat} {fmy ffi fki fev fbu fsh gki gev gbu : Nat → Int32} {y : Int32} (h : TP kr kt ko fmy ffi fki fev fbu fsh) (hk : ko ≤ k2) (hy : ¬ y = 0)
    (hki : ∀ i, i ≠ 10 * kr + kt → gki i = fki i) (hev : ∀ i, i ≠ 10 * kr + kt → gev i = fev i) (hbu : ∀ i, i ≠ 10 * kr + kt → gbu i = fbu i)
    (hn : 3 ≤ gki (10 * kr + kt) → (∃ e, 1 ≤ e ∧ e ≤ 20 ∧ gev (10 * kr + kt) = nI e) ∧ (∃ b, b ≤ 99 ∧ gbu (10 * kr + kt) = nI b)) :
    TP kr (kt + 1) k2 (upd fmy (10 * kr + kt) (nI (k2 - ko))) (upd ffi (10 * kr + kt) (nI ko)) gki gev gbu (upd fsh (10 * kr + kt) y) := by
  intro t ht
  by_cases e : t = kt
  · subst e
    exact ⟨⟨k2 - ko, ko, pk_us, pk_us, by omega⟩, by rw [pk_us]; exact hy, hn⟩
  · have hne : 10 * kr + t ≠ 10 * kr + kt := by omega
    rw [pk_un hne, pk_un hne, pk_un hne, hki _ hne, hev _ hne, hbu _ hne]
    obtain ⟨⟨m, s, a, b, c⟩, d⟩ := h t (by omega)
    exact ⟨⟨m, s, a, b, by omega⟩, d⟩
theorem TP.pl1 {kr kt ko : Nat} {fmy ffi fki fev fbu fsh fnu : Nat → Int32} (h : TP kr kt ko fmy ffi fki fev fbu fsh) (hn : ON kr ko fnu) (hko : ko ≤ 90) : PL1 kr kt (fun t => (fmy (10 * kr + t)).toNatClampNeg) (fun t => (ffi (10 * kr + t)).toNatClampNeg) fmy ffi fnu := by
  intro t ht
  obtain ⟨⟨m, s, a, b, c⟩, -⟩ := h t ht
  have e1 : (fmy (10 * kr + t)).toNatClampNeg = m := by rw [a]; exact nI_clamp (by omega)
  have e2 : (ffi (10 * kr + t)).toNatClampNeg = s := by rw [b]; exact nI_clamp (by omega)
  refine ⟨?_, ?_, ?_, fun j hj => ?_⟩
  · show fmy (10 * kr + t) = nI ((fmy (10 * kr + t)).toNatClampNeg); rw [e1]; exact a
  · show ffi (10 * kr + t) = nI ((ffi (10 * kr + t)).toNatClampNeg); rw [e2]; exact b
  · show (ffi (10 * kr + t)).toNatClampNeg + (fmy (10 * kr + t)).toNatClampNeg ≤ 90; omega
  · have hj2 : j < m := by have : j < (fmy (10 * kr + t)).toNatClampNeg := hj; omega
    show ∃ v, v ≤ 99 ∧ fnu (90 * kr + (ffi (10 * kr + t)).toNatClampNeg + j) = nI v
    rw [e2, show 90 * kr + s + j = 90 * kr + (s + j) by omega]
    exact hn (s + j) (by omega)
theorem TP.pb2 {kr kt ko : Nat} {fmy ffi fki fev fbu fsh : Nat → Int32} (h : TP kr kt ko fmy ffi fki fev fbu fsh) : PB2 kr kt fki fev fbu := fun t ht => (h t ht).2.2
theorem TP.pb3 {kr kt ko : Nat} {fmy ffi fki fev fbu fsh : Nat → Int32} (h : TP kr kt ko fmy ffi fki fev fbu fsh) : PB3 kr kt fsh := fun t ht => (h t ht).2.1
/-- a bank's plan stands where the other bank is written -/
theorem PL1.fm {kb kr kn : Nat} {ml fs : Nat → Nat} {fmy ffi fnu gmy gfi gnu : Nat → Int32} (h : PL1 kb kn ml fs fmy ffi fnu) (hkn : kn ≤ 10) (hb : kb + kr = 1) (a : FM (10 * kr) (10 * kr + 10) fmy gmy) (b : FM (10 * kr) (10 * kr + 10) ffi gfi) (c : FM (90 * kr) (90 * kr + 90) fnu gnu) : PL1 kb kn ml fs gmy gfi gnu := by
  intro t ht
  obtain ⟨h1, h2, h3, h4⟩ := h t ht
  refine ⟨(a _ (by omega)).trans h1, (b _ (by omega)).trans h2, h3, fun j hj => ?_⟩
  obtain ⟨v, hv, e⟩ := h4 j hj
  exact ⟨v, hv, (c _ (by omega)).trans e⟩
theorem PB2.fm {kb kr kn : Nat} {fki fev fbu gki gev gbu : Nat → Int32} (h : PB2 kb kn fki fev fbu) (hkn : kn ≤ 10) (hb : kb + kr = 1) (a : FM (10 * kr) (10 * kr + 10) fki gki) (b : FM (10 * kr) (10 * kr + 10) fev gev) (c : FM (10 * kr) (10 * kr + 10) fbu gbu) : PB2 kb kn gki gev gbu := by
  intro t ht h3
  rw [a _ (by omega)] at h3
  rw [b _ (by omega), c _ (by omega)]
  exact h t ht h3
theorem PB3.fm {kb kr kn : Nat} {fsh gsh : Nat → Int32} (h : PB3 kb kn fsh) (hkn : kn ≤ 10) (hb : kb + kr = 1) (a : FM (10 * kr) (10 * kr + 10) fsh gsh) : PB3 kb kn gsh := by
  intro t ht
  rw [a _ (by omega)]
  exact h t ht
theorem one_sub : ∀ k, k < 2 → (1 : Int32) - nI k = nI (1 - k) := by decide +kernel
def CO (kr m : Nat) (f : Nat → Int32) : Prop := ∃ c, c ≤ m ∧ f kr = nI c
def RD (kr : Nat) (ftk fop fnu fmy ffi fki fev fbu fsh : Nat → Int32) : Prop := ∃ t2 k2, t2 ≤ 10 ∧ k2 ≤ 90 ∧ ftk kr = nI t2 ∧ fop kr = nI k2 ∧ ON kr k2 fnu ∧ TP kr t2 k2 fmy ffi fki fev fbu fsh
def F7 (kr : Nat) (ftk gtk fnu gnu fmy gmy ffi gfi fki gki fev gev fbu gbu fsh gsh : Nat → Int32) : Prop := FM kr (kr + 1) ftk gtk ∧ FM (90 * kr) (90 * kr + 90) fnu gnu ∧ FM (10 * kr) (10 * kr + 10) fmy gmy ∧ FM (10 * kr) (10 * kr + 10) ffi gfi ∧ FM (10 * kr) (10 * kr + 10) fki gki ∧ FM (10 * kr) (10 * kr + 10) fev gev ∧ FM (10 * kr) (10 * kr + 10) fbu gbu ∧ FM (10 * kr) (10 * kr + 10) fsh gsh
theorem F7.rf {kr : Nat} {a b c d e f g h : Nat → Int32} : F7 kr a a b b c c d d e e f f g g h h := ⟨FM.rf, FM.rf, FM.rf, FM.rf, FM.rf, FM.rf, FM.rf, FM.rf⟩
theorem F7.tr {kr : Nat} {a a1 a2 b b1 b2 c c1 c2 d d1 d2 e e1 e2 f f1 f2 g g1 g2 h h1 h2 : Nat → Int32} (x : F7 kr a a1 b b1 c c1 d d1 e e1 f f1 g g1 h h1) (y : F7 kr a1 a2 b1 b2 c1 c2 d1 d2 e1 e2 f1 f2 g1 g2 h1 h2) : F7 kr a a2 b b2 c c2 d d2 e e2 f f2 g g2 h h2 :=
  ⟨x.1.tr y.1, x.2.1.tr y.2.1, x.2.2.1.tr y.2.2.1, x.2.2.2.1.tr y.2.2.2.1, x.2.2.2.2.1.tr y.2.2.2.2.1, x.2.2.2.2.2.1.tr y.2.2.2.2.2.1, x.2.2.2.2.2.2.1.tr y.2.2.2.2.2.2.1, x.2.2.2.2.2.2.2.tr y.2.2.2.2.2.2.2⟩
/-- how much may yet be read -/
def RM (ksz e : Nat) (t fk : Int32) : Nat := if fk = 0 then 1 + (ksz - e) + (if t = 0 then 0 else 1) else 0
theorem RM.gp {ksz e e2 n : Nat} {t t2 fk fk2 : Int32} (h : RM ksz e t fk < n + 1) (hf : fk = 0) (ht : ¬ t = 0) (he : e ≤ ksz) (g : ¬ fk2 = 0 ∨ GP ksz e e2 t2) : RM ksz e2 t2 fk2 < n := by
  unfold RM at h ⊢
  rw [if_pos hf, if_neg ht] at h
  by_cases h2 : fk2 = 0
  · rw [if_pos h2]
    obtain ⟨g1, g2⟩ := g.resolve_left (fun x => x h2)
    rcases g2 with g2 | ⟨g2, g3⟩
    · split <;> omega
    · rw [if_pos g3]; omega
  · rw [if_neg h2]; omega
theorem FM.one {j : Nat} {lo hi : Nat} {f : Nat → Int32} {v : Int32} (h : lo ≤ j ∧ j < hi) : FM lo hi f (upd f j v) := FM.rf.up h
theorem ne_idx {f : Nat → Int32} {j : Nat} {v : Int32} : ∀ i, i ≠ j → upd f j v i = f i := fun _ h => pk_un h
theorem ne_idx2 {f : Nat → Int32} {j : Nat} {v w : Int32} : ∀ i, i ≠ j → upd (upd f j v) j w i = f i := fun _ h => by rw [pk_un h, pk_un h]
