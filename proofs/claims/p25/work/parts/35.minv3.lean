/-! RANGES, COPIES, THE BEGINNING -/
theorem in_lt {x y : Int32} {n : Nat} (d : 0 ≤ x ∧ x ≤ y) (e : y = nI n - 1) (hn : n < 2 ^ 31) : ∃ k : Nat, k < n ∧ x = nI k := by
  obtain ⟨k, hk, rfl⟩ := nI_of (Int32.not_lt.mpr d.1)
  refine ⟨k, ?_, rfl⟩
  obtain ⟨d1, d2⟩ := d
  subst e
  cases n with
  | zero =>
    exfalso
    have h1 := Int32.le_iff_toInt_le.mp d2
    rw [nI_toInt hk] at h1
    have h2 : (nI 0 - 1).toInt = -1 := by decide +kernel
    omega
  | succ n =>
    rw [nI_pred] at d2
    have := (nI_leI hk (by omega)).mp d2
    omega
theorem in_task {r x y : Int32} {n : Nat} (h : (r = 1 ∧ (0 ≤ x ∧ x ≤ y)) ∨ (r = 0 ∧ ¬ (0 ≤ x ∧ x ≤ y))) (e : y = nI n - 1) (hn : n < 2 ^ 31) : r = 0 ∨ (r = 1 ∧ ∃ k : Nat, k < n ∧ x = nI k) := h.elim (fun h => Or.inr ⟨h.1, in_lt h.2 e hn⟩) (fun h => Or.inl h.1)
theorem ge1 {x : Int32} (h : 1 ≤ x) : ¬ x = 0 := fun e => by subst e; exact absurd h (by decide +kernel)
theorem AI.c340 {x kn : Nat} {ml : Nat → Nat} {f g : Nat → Int32} (h : AI x kn ml f) (hk : kn ≤ 10) (e : ∀ i, i < 340 → g i = f i) : AI x kn ml g := h.cg hk fun i hi => e i (by unfold rel at hi; omega)
theorem cp_s {f g : Nat → Int32} {n : Nat} (h : ∀ i, i < n → g i = f i) : ∀ i, i < n + 1 → upd g n (f n) i = f i := fun i hi => if e : i = n then (by subst e; exact pk_us) else (by rw [pk_un e]; exact h i (by omega))
theorem z_s {g : Nat → Int32} {n : Nat} (h : ∀ i, i < n → g i = 0) : ∀ i, i < n + 1 → upd g n 0 i = 0 := fun i hi => if e : i = n then (by subst e; exact pk_us) else (by rw [pk_un e]; exact h i (by omega))
def BH (n : Nat) (f : Nat → Int32) : Prop := (∀ i, i < 340 → ¬ (320 ≤ i ∧ i < 320 + n) → f i = 0) ∧ ∀ l, l < n → f (320 + l) = -1
theorem BH.z {f : Nat → Int32} {n : Nat} (h : ∀ i, i < n → f i = 0) (hn : 340 ≤ n) : BH 0 f := ⟨fun i hi _ => h i (by omega), fun l h => by omega⟩
theorem BH.s {f : Nat → Int32} {n : Nat} (h : BH n f) : BH (n + 1) (upd f (320 + n) (-1)) := ⟨fun i hi hn => by rw [pk_un (by omega)]; exact h.1 i hi (by omega), fun l hl => if e : l = n then (by subst e; exact pk_us) else (by rw [pk_un (by omega)]; exact h.2 l (by omega))⟩
def BG (n : Nat) (ml : Nat → Nat) (f : Nat → Int32) : Prop := (∀ t, t < n → (f (32 * t + 0) = 4 ∨ (f (32 * t + 0) = 0 ∧ f (32 * t + 1) = nI 0 ∧ 0 < ml t)) ∧ ¬ f (32 * t + 5) = 0) ∧ (∀ t, n ≤ t → t < 10 → f (32 * t + 0) = 0 ∧ f (32 * t + 1) = nI 0) ∧ (∀ t, t < 10 → f (32 * t + 14) = nI 0) ∧ (∀ l, l < 6 → f (320 + l) = -1) ∧ f 330 = nI 0
theorem BG.z {ml : Nat → Nat} {f : Nat → Int32} {n : Nat} (h : BH n f) (hn : n = 6) : BG 0 ml f := by
  subst hn
  exact ⟨fun t h => by omega, fun t _ ht => ⟨h.1 _ (by omega) (by omega), h.1 _ (by omega) (by omega)⟩, fun t ht => h.1 _ (by omega) (by omega), fun l hl => h.2 l hl, h.1 _ (by omega) (by omega)⟩
theorem BG.s1 {n kn : Nat} {ml : Nat → Nat} {f : Nat → Int32} {x y : Int32} (h : BG n ml f) (hn : n < kn) (hkn : kn ≤ 10) (hy : ¬ y = 0) (hm : ¬ 0 = ml n) : BG (n + 1) ml (upd (upd (upd f (32 * n + 5) y) (32 * n + 9) (-1)) (32 * n + 2) x) := by
  obtain ⟨h1, h2, h3, h4, h5⟩ := h
  refine ⟨fun t ht => ?_, fun t a b => ?_, fun t ht => ?_, fun l hl => ?_, ?_⟩
  · rw [pk_un (show 32 * t + 0 ≠ 32 * n + 2 by omega), pk_un (show 32 * t + 0 ≠ 32 * n + 9 by omega), pk_un (show 32 * t + 0 ≠ 32 * n + 5 by omega), pk_un (show 32 * t + 1 ≠ 32 * n + 2 by omega), pk_un (show 32 * t + 1 ≠ 32 * n + 9 by omega), pk_un (show 32 * t + 1 ≠ 32 * n + 5 by omega), pk_un (show 32 * t + 5 ≠ 32 * n + 2 by omega), pk_un (show 32 * t + 5 ≠ 32 * n + 9 by omega)]
    by_cases e : t = n
    · subst e
      rw [pk_us]
      obtain ⟨a, b⟩ := h2 t (Nat.le_refl _) (by omega)
      exact ⟨Or.inr ⟨a, b, by omega⟩, hy⟩
    · rw [pk_un (show 32 * t + 5 ≠ 32 * n + 5 by omega)]; exact h1 t (by omega)
  · rw [pk_un (by omega), pk_un (by omega), pk_un (by omega), pk_un (by omega), pk_un (by omega), pk_un (by omega)]; exact h2 t (by omega) b
  · rw [pk_un (by omega), pk_un (by omega), pk_un (by omega)]; exact h3 t ht
  · rw [pk_un (by omega), pk_un (by omega), pk_un (by omega)]; exact h4 l hl
  · rw [pk_un (by omega), pk_un (by omega), pk_un (by omega)]; exact h5
theorem BG.s2 {n kn : Nat} {ml : Nat → Nat} {f : Nat → Int32} {x y : Int32} (h : BG n ml f) (hn : n < kn) (hkn : kn ≤ 10) (hy : ¬ y = 0) : BG (n + 1) ml (upd (upd (upd (upd f (32 * n + 5) y) (32 * n + 9) (-1)) (32 * n + 2) x) (32 * n + 0) 4) := by
  obtain ⟨h1, h2, h3, h4, h5⟩ := h
  refine ⟨fun t ht => ?_, fun t a b => ?_, fun t ht => ?_, fun l hl => ?_, ?_⟩
  · by_cases e : t = n
    · subst e
      refine ⟨Or.inl pk_us, ?_⟩
      rw [pk_un (by omega), pk_un (by omega), pk_un (by omega), pk_us]; exact hy
    · rw [pk_un (show 32 * t + 0 ≠ 32 * n + 0 by omega), pk_un (show 32 * t + 0 ≠ 32 * n + 2 by omega), pk_un (show 32 * t + 0 ≠ 32 * n + 9 by omega), pk_un (show 32 * t + 0 ≠ 32 * n + 5 by omega), pk_un (show 32 * t + 1 ≠ 32 * n + 0 by omega), pk_un (show 32 * t + 1 ≠ 32 * n + 2 by omega), pk_un (show 32 * t + 1 ≠ 32 * n + 9 by omega), pk_un (show 32 * t + 1 ≠ 32 * n + 5 by omega), pk_un (show 32 * t + 5 ≠ 32 * n + 0 by omega), pk_un (show 32 * t + 5 ≠ 32 * n + 2 by omega), pk_un (show 32 * t + 5 ≠ 32 * n + 9 by omega), pk_un (show 32 * t + 5 ≠ 32 * n + 5 by omega)]
      exact h1 t (by omega)
  · rw [pk_un (by omega), pk_un (by omega), pk_un (by omega), pk_un (by omega), pk_un (by omega), pk_un (by omega), pk_un (by omega), pk_un (by omega)]; exact h2 t (by omega) b
  · rw [pk_un (by omega), pk_un (by omega), pk_un (by omega), pk_un (by omega)]; exact h3 t ht
  · rw [pk_un (by omega), pk_un (by omega), pk_un (by omega), pk_un (by omega)]; exact h4 l hl
  · rw [pk_un (by omega), pk_un (by omega), pk_un (by omega), pk_un (by omega)]; exact h5
theorem BG.ai {n kn : Nat} {ml : Nat → Nat} {f : Nat → Int32} (h : BG n ml f) (hn : n = kn) (hkn : kn ≤ 10) : AI 100 kn ml f := by
  subst hn
  obtain ⟨h1, h2, h3, h4, h5⟩ := h
  have hno : ∀ t, t < n → ¬ f (32 * t + 0) = 1 := fun t ht e => by
    rcases (h1 t ht).1 with a | ⟨a, -⟩
    · rw [a] at e; exact absurd e (by decide +kernel)
    · rw [a] at e; exact absurd e (by decide +kernel)
  refine ⟨fun t ht _ => ?_, fun t ht => (h1 t ht).2, fun t ht _ e => absurd e (hno t ht), fun l hl => Or.inl (h4 l hl), ⟨fun _ => 0, fun t _ _ ht _ _ _ e => absurd e (hno t ht)⟩, fun t ht => ⟨0, by omega, h3 t (by omega)⟩⟩
  rcases (h1 t ht).1 with a | ⟨-, b, c⟩
  · exact Or.inl a
  · exact Or.inr ⟨0, c, b⟩
/-- the boxes -/
def BX (kn : Nat) (ml : Nat → Nat) (fbx fba : Nat → Int32) : Prop := ∀ b, b < 3 → ¬ fbx b = 0 → AI 100 kn ml (fun i => fba (340 * b + i)) ∧ ∃ w, w ≤ 2000 ∧ fba (340 * b + 330) = nI w
def BC (k n : Nat) (fa f g : Nat → Int32) : Prop := (∀ i, i < n → g (340 * k + i) = fa i) ∧ ∀ j, ¬ (340 * k ≤ j ∧ j < 340 * k + 340) → g j = f j
theorem BC.z {k : Nat} {fa f : Nat → Int32} : BC k 0 fa f f := ⟨fun i h => by omega, fun _ _ => rfl⟩
theorem BC.s {k n : Nat} {fa f g : Nat → Int32} (h : BC k n fa f g) (hn : n < 340) : BC k (n + 1) fa f (upd g (340 * k + n) (fa n)) := ⟨fun i hi => if e : i = n then (by subst e; exact pk_us) else (by rw [pk_un (by omega)]; exact h.1 i (by omega)), fun j hj => by rw [pk_un (by omega)]; exact h.2 j hj⟩
theorem BX.im {kn k n w : Nat} {ml : Nat → Nat} {fa fbx f g : Nat → Int32} {v : Int32} (h : BX kn ml fbx f) (c : BC k n fa f g) (hn : 340 ≤ n) (hkn : kn ≤ 10) (hai : AI 100 kn ml fa) (hw : fa 330 = nI w) (hw2 : w ≤ 2000) : BX kn ml (upd fbx k v) g := by
  intro b hb hne
  by_cases e : b = k
  · subst e
    exact ⟨hai.c340 hkn (fun i hi => c.1 i (by omega)), w, hw2, (c.1 330 (by omega)).trans hw⟩
  · rw [pk_un e] at hne
    obtain ⟨a, w2, b1, b2⟩ := h b hb hne
    exact ⟨a.c340 hkn (fun i hi => c.2 _ (by omega)), w2, b1, (c.2 _ (by omega)).trans b2⟩
/-- told choices -/
def CT (m : Nat) (f : Nat → Int32) : Prop := ∀ k, k < 60 → ∃ v, v < m ∧ f k = nI v
theorem CT.up {m k v : Nat} {f : Nat → Int32} (h : CT m f) (hv : v < m) : CT m (upd f k (nI v)) := fun j hj => if e : j = k then (by subst e; exact ⟨v, hv, pk_us⟩) else (by rw [pk_un e]; exact h j hj)
