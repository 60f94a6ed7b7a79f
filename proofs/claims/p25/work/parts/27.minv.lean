/-! THE REFERENCE'S STATE: what holds of its row 'all' -/
theorem upd_e {f : Nat → Int32} {a b : Nat} {v : Int32} (h : b = a) : upd f a v b = v := by subst h; exact pk_us
theorem b01_of {r : Int32} {C : Prop} (h : (r = 1 ∧ C) ∨ (r = 0 ∧ ¬ C)) : r = 0 ∨ r = 1 := h.elim (fun h => Or.inr h.1) (fun h => Or.inl h.1)
theorem nI_inj {a b : Nat} (h : nI a = nI b) (ha : a < 2 ^ 31) (hb : b < 2 ^ 31) : a = b := (nI_eq ha hb).mp h
theorem nI_neg {a : Nat} (ha : a < 2 ^ 31) : ¬ nI a = -1 := fun h => nI_neg_ne ha (by decide +kernel) h
/-- x: the task that is being changed (100: none) -/
def AI (x kn : Nat) (ml : Nat → Nat) (f : Nat → Int32) : Prop :=
  (∀ t, t < kn → t ≠ x → (f (32 * t + 0) = 4 ∨ ∃ j, j < ml t ∧ f (32 * t + 1) = nI j)) ∧
  (∀ t, t < kn → ¬ f (32 * t + 5) = 0) ∧
  (∀ t, t < kn → t ≠ x → f (32 * t + 0) = 1 → ∃ l, l < 6 ∧ f (32 * t + 9) = nI l ∧ ∃ h, h < kn ∧ f (320 + l) = nI h) ∧
  (∀ l, l < 6 → (f (320 + l) = -1 ∨ ∃ h, h < kn ∧ f (320 + l) = nI h)) ∧
  (∃ rk : Nat → Nat, ∀ t l h, t < kn → t ≠ x → l < 6 → h < kn → f (32 * t + 0) = 1 → f (32 * t + 9) = nI l → f (320 + l) = nI h → rk h < rk t) ∧
  (∀ t, t < kn → ∃ n, n ≤ 11 ∧ f (32 * t + 14) = nI n)
def rel (i : Nat) : Prop := i < 326 ∧ (320 ≤ i ∨ i % 32 = 0 ∨ i % 32 = 1 ∨ i % 32 = 5 ∨ i % 32 = 9 ∨ i % 32 = 14)
theorem AI.cg {x kn : Nat} {ml : Nat → Nat} {f g : Nat → Int32} (h : AI x kn ml f) (hk : kn ≤ 10) (e : ∀ i, rel i → g i = f i) : AI x kn ml g := by
  obtain ⟨h1, h2, h3, h4, ⟨rk, h5⟩, h6⟩ := h
  have e0 : ∀ t, t < kn → g (32 * t + 0) = f (32 * t + 0) := fun t ht => e _ ⟨by omega, by omega⟩
  have e1 : ∀ t, t < kn → g (32 * t + 1) = f (32 * t + 1) := fun t ht => e _ ⟨by omega, by omega⟩
  have e5 : ∀ t, t < kn → g (32 * t + 5) = f (32 * t + 5) := fun t ht => e _ ⟨by omega, by omega⟩
  have e9 : ∀ t, t < kn → g (32 * t + 9) = f (32 * t + 9) := fun t ht => e _ ⟨by omega, by omega⟩
  have e14 : ∀ t, t < kn → g (32 * t + 14) = f (32 * t + 14) := fun t ht => e _ ⟨by omega, by omega⟩
  have eh : ∀ l, l < 6 → g (320 + l) = f (320 + l) := fun l hl => e _ ⟨by omega, by omega⟩
  refine ⟨fun t ht hx => ?_, fun t ht => ?_, fun t ht hx hs => ?_, fun l hl => ?_, ⟨rk, fun t l h ht hx hl hh hs hf hd => ?_⟩, fun t ht => ?_⟩
  · rw [e0 t ht, e1 t ht]; exact h1 t ht hx
  · rw [e5 t ht]; exact h2 t ht
  · rw [e0 t ht] at hs
    obtain ⟨l, hl, a, b, hb, c⟩ := h3 t ht hx hs
    exact ⟨l, hl, by rw [e9 t ht]; exact a, b, hb, by rw [eh l hl]; exact c⟩
  · rw [eh l hl]; exact h4 l hl
  · rw [e0 t ht] at hs; rw [e9 t ht] at hf; rw [eh l hl] at hd
    exact h5 t l h ht hx hl hh hs hf hd
  · rw [e14 t ht]; exact h6 t ht
theorem AI.o {x kn : Nat} {ml : Nat → Nat} {f : Nat → Int32} (h : AI x kn ml f) (hk : kn ≤ 10) {i : Nat} {v : Int32} (hi : ¬ rel i) : AI x kn ml (upd f i v) :=
  h.cg hk fun j hj => pk_un (fun e => hi (e ▸ hj))
theorem AI.st {x kn : Nat} {ml : Nat → Nat} {f : Nat → Int32} (h : AI x kn ml f) (hk : kn ≤ 10) {t : Nat} {v : Int32} (ht : t < kn) (hv : ¬ v = 1) (ho : t = x ∨ v = 4 ∨ ∃ j, j < ml t ∧ f (32 * t + 1) = nI j) : AI x kn ml (upd f (32 * t + 0) v) := by
  obtain ⟨h1, h2, h3, h4, ⟨rk, h5⟩, h6⟩ := h
  have en : ∀ u c, u < kn → c < 32 → c ≠ 0 → upd f (32 * t + 0) v (32 * u + c) = f (32 * u + c) := fun u c hu hc hc0 => pk_un (by omega)
  have eh : ∀ l, l < 6 → upd f (32 * t + 0) v (320 + l) = f (320 + l) := fun l hl => pk_un (by omega)
  have e0 : ∀ u, u < kn → u ≠ t → upd f (32 * t + 0) v (32 * u + 0) = f (32 * u + 0) := fun u hu hc => pk_un (by omega)
  refine ⟨fun u hu hx => ?_, fun u hu => ?_, fun u hu hx hs => ?_, fun l hl => ?_, ⟨rk, fun u l q hu hx hl hq hs hf hd => ?_⟩, fun u hu => ?_⟩
  · rw [en u 1 hu (by omega) (by omega)]
    by_cases e : u = t
    · subst e
      rw [pk_us]
      rcases ho with ho | ho | ho
      · exact absurd ho hx
      · exact Or.inl ho
      · exact Or.inr ho
    · rw [e0 u hu e]; exact h1 u hu hx
  · rw [en u 5 hu (by omega) (by omega)]; exact h2 u hu
  · by_cases e : u = t
    · subst e; rw [pk_us] at hs; exact absurd hs hv
    · rw [e0 u hu e] at hs
      obtain ⟨l, hl, a, b, hb, c⟩ := h3 u hu hx hs
      exact ⟨l, hl, by rw [en u 9 hu (by omega) (by omega)]; exact a, b, hb, by rw [eh l hl]; exact c⟩
  · rw [eh l hl]; exact h4 l hl
  · by_cases e : u = t
    · subst e; rw [pk_us] at hs; exact absurd hs hv
    · rw [e0 u hu e] at hs; rw [en u 9 hu (by omega) (by omega)] at hf; rw [eh l hl] at hd
      exact h5 u l q hu hx hl hq hs hf hd
  · rw [en u 14 hu (by omega) (by omega)]; exact h6 u hu
theorem AI.fr {x kn : Nat} {ml : Nat → Nat} {f : Nat → Int32} (h : AI x kn ml f) (hk : kn ≤ 10) {t : Nat} {v : Int32} (ht : t < kn) (ho : t = x ∨ ¬ f (32 * t + 0) = 1) : AI x kn ml (upd f (32 * t + 9) v) := by
  obtain ⟨h1, h2, h3, h4, ⟨rk, h5⟩, h6⟩ := h
  have en : ∀ u c, u < kn → c < 32 → c ≠ 9 → upd f (32 * t + 9) v (32 * u + c) = f (32 * u + c) := fun u c hu hc hc0 => pk_un (by omega)
  have eh : ∀ l, l < 6 → upd f (32 * t + 9) v (320 + l) = f (320 + l) := fun l hl => pk_un (by omega)
  have e0 : ∀ u, u < kn → u ≠ t → upd f (32 * t + 9) v (32 * u + 9) = f (32 * u + 9) := fun u hu hc => pk_un (by omega)
  refine ⟨fun u hu hx => ?_, fun u hu => ?_, fun u hu hx hs => ?_, fun l hl => ?_, ⟨rk, fun u l q hu hx hl hq hs hf hd => ?_⟩, fun u hu => ?_⟩
  · rw [en u 0 hu (by omega) (by omega), en u 1 hu (by omega) (by omega)]; exact h1 u hu hx
  · rw [en u 5 hu (by omega) (by omega)]; exact h2 u hu
  · rw [en u 0 hu (by omega) (by omega)] at hs
    by_cases e : u = t
    · subst e; rcases ho with ho | ho
      · exact absurd ho hx
      · exact absurd hs ho
    · obtain ⟨l, hl, a, b, hb, c⟩ := h3 u hu hx hs
      exact ⟨l, hl, by rw [e0 u hu e]; exact a, b, hb, by rw [eh l hl]; exact c⟩
  · rw [eh l hl]; exact h4 l hl
  · rw [en u 0 hu (by omega) (by omega)] at hs
    by_cases e : u = t
    · subst e; rcases ho with ho | ho
      · exact absurd ho hx
      · exact absurd hs ho
    · rw [e0 u hu e] at hf; rw [eh l hl] at hd
      exact h5 u l q hu hx hl hq hs hf hd
  · rw [en u 14 hu (by omega) (by omega)]; exact h6 u hu
theorem AI.op {x kn : Nat} {ml : Nat → Nat} {f : Nat → Int32} (h : AI x kn ml f) (hk : kn ≤ 10) {t : Nat} {v : Int32} (ht : t < kn) (ho : t = x ∨ f (32 * t + 0) = 4 ∨ ∃ j, j < ml t ∧ v = nI j) : AI x kn ml (upd f (32 * t + 1) v) := by
  obtain ⟨h1, h2, h3, h4, ⟨rk, h5⟩, h6⟩ := h
  have en : ∀ u c, u < kn → c < 32 → c ≠ 1 → upd f (32 * t + 1) v (32 * u + c) = f (32 * u + c) := fun u c hu hc hc0 => pk_un (by omega)
  have eh : ∀ l, l < 6 → upd f (32 * t + 1) v (320 + l) = f (320 + l) := fun l hl => pk_un (by omega)
  refine ⟨fun u hu hx => ?_, fun u hu => ?_, fun u hu hx hs => ?_, fun l hl => ?_, ⟨rk, fun u l q hu hx hl hq hs hf hd => ?_⟩, fun u hu => ?_⟩
  · rw [en u 0 hu (by omega) (by omega)]
    by_cases e : u = t
    · subst e; rw [pk_us]
      rcases ho with ho | ho | ho
      · exact absurd ho hx
      · exact Or.inl ho
      · exact Or.inr ho
    · rw [pk_un (show 32 * u + 1 ≠ 32 * t + 1 by omega)]; exact h1 u hu hx
  · rw [en u 5 hu (by omega) (by omega)]; exact h2 u hu
  · rw [en u 0 hu (by omega) (by omega)] at hs
    obtain ⟨l, hl, a, b, hb, c⟩ := h3 u hu hx hs
    exact ⟨l, hl, by rw [en u 9 hu (by omega) (by omega)]; exact a, b, hb, by rw [eh l hl]; exact c⟩
  · rw [eh l hl]; exact h4 l hl
  · rw [en u 0 hu (by omega) (by omega)] at hs; rw [en u 9 hu (by omega) (by omega)] at hf; rw [eh l hl] at hd
    exact h5 u l q hu hx hl hq hs hf hd
  · rw [en u 14 hu (by omega) (by omega)]; exact h6 u hu
theorem AI.sh {x kn : Nat} {ml : Nat → Nat} {f : Nat → Int32} (h : AI x kn ml f) (hk : kn ≤ 10) {t : Nat} {v : Int32} (ht : t < kn) (hv : ¬ v = 0) : AI x kn ml (upd f (32 * t + 5) v) := by
  obtain ⟨h1, h2, h3, h4, ⟨rk, h5⟩, h6⟩ := h
  have en : ∀ u c, u < kn → c < 32 → c ≠ 5 → upd f (32 * t + 5) v (32 * u + c) = f (32 * u + c) := fun u c hu hc hc0 => pk_un (by omega)
  have eh : ∀ l, l < 6 → upd f (32 * t + 5) v (320 + l) = f (320 + l) := fun l hl => pk_un (by omega)
  refine ⟨fun u hu hx => ?_, fun u hu => ?_, fun u hu hx hs => ?_, fun l hl => ?_, ⟨rk, fun u l q hu hx hl hq hs hf hd => ?_⟩, fun u hu => ?_⟩
  · rw [en u 0 hu (by omega) (by omega), en u 1 hu (by omega) (by omega)]; exact h1 u hu hx
  · by_cases e : u = t
    · subst e; rw [pk_us]; exact hv
    · rw [pk_un (show 32 * u + 5 ≠ 32 * t + 5 by omega)]; exact h2 u hu
  · rw [en u 0 hu (by omega) (by omega)] at hs
    obtain ⟨l, hl, a, b, hb, c⟩ := h3 u hu hx hs
    exact ⟨l, hl, by rw [en u 9 hu (by omega) (by omega)]; exact a, b, hb, by rw [eh l hl]; exact c⟩
  · rw [eh l hl]; exact h4 l hl
  · rw [en u 0 hu (by omega) (by omega)] at hs; rw [en u 9 hu (by omega) (by omega)] at hf; rw [eh l hl] at hd
    exact h5 u l q hu hx hl hq hs hf hd
  · rw [en u 14 hu (by omega) (by omega)]; exact h6 u hu
theorem AI.rm {x kn : Nat} {ml : Nat → Nat} {f : Nat → Int32} (h : AI x kn ml f) (hk : kn ≤ 10) {t n : Nat} (ht : t < kn) (hn : n ≤ 11) : AI x kn ml (upd f (32 * t + 14) (nI n)) := by
  obtain ⟨h1, h2, h3, h4, ⟨rk, h5⟩, h6⟩ := h
  have en : ∀ u c, u < kn → c < 32 → c ≠ 14 → upd f (32 * t + 14) (nI n) (32 * u + c) = f (32 * u + c) := fun u c hu hc hc0 => pk_un (by omega)
  have eh : ∀ l, l < 6 → upd f (32 * t + 14) (nI n) (320 + l) = f (320 + l) := fun l hl => pk_un (by omega)
  refine ⟨fun u hu hx => ?_, fun u hu => ?_, fun u hu hx hs => ?_, fun l hl => ?_, ⟨rk, fun u l q hu hx hl hq hs hf hd => ?_⟩, fun u hu => ?_⟩
  · rw [en u 0 hu (by omega) (by omega), en u 1 hu (by omega) (by omega)]; exact h1 u hu hx
  · rw [en u 5 hu (by omega) (by omega)]; exact h2 u hu
  · rw [en u 0 hu (by omega) (by omega)] at hs
    obtain ⟨l, hl, a, b, hb, c⟩ := h3 u hu hx hs
    exact ⟨l, hl, by rw [en u 9 hu (by omega) (by omega)]; exact a, b, hb, by rw [eh l hl]; exact c⟩
  · rw [eh l hl]; exact h4 l hl
  · rw [en u 0 hu (by omega) (by omega)] at hs; rw [en u 9 hu (by omega) (by omega)] at hf; rw [eh l hl] at hd
    exact h5 u l q hu hx hl hq hs hf hd
  · by_cases e : u = t
    · subst e; exact ⟨n, hn, pk_us⟩
    · rw [pk_un (show 32 * u + 14 ≠ 32 * t + 14 by omega)]; exact h6 u hu
theorem AI.weak {kn t : Nat} {ml : Nat → Nat} {f : Nat → Int32} (h : AI 100 kn ml f) (hk : kn ≤ 10) : AI t kn ml f := by
  obtain ⟨h1, h2, h3, h4, ⟨rk, h5⟩, h6⟩ := h
  exact ⟨fun u hu _ => h1 u hu (by omega), h2, fun u hu _ => h3 u hu (by omega), h4, ⟨rk, fun u l q hu _ => h5 u l q hu (by omega)⟩, h6⟩
theorem AI.full {kn t : Nat} {ml : Nat → Nat} {f : Nat → Int32} (h : AI t kn ml f) (ho : f (32 * t + 0) = 4 ∨ ∃ j, j < ml t ∧ f (32 * t + 1) = nI j) (hn : ¬ f (32 * t + 0) = 1) : AI 100 kn ml f := by
  obtain ⟨h1, h2, h3, h4, ⟨rk, h5⟩, h6⟩ := h
  refine ⟨fun u hu _ => ?_, h2, fun u hu _ hs => ?_, h4, ⟨rk, fun u l q hu _ hl hq hs hf hd => ?_⟩, h6⟩
  · by_cases e : u = t
    · subst e; exact ho
    · exact h1 u hu e
  · by_cases e : u = t
    · subst e; exact absurd hs hn
    · exact h3 u hu e hs
  · by_cases e : u = t
    · subst e; exact absurd hs hn
    · exact h5 u l q hu e hl hq hs hf hd
/-- a lock that nobody holds is taken -/
theorem AI.take {kn t l : Nat} {ml : Nat → Nat} {f : Nat → Int32} (h : AI 100 kn ml f) (hk : kn ≤ 10) (hl : l < 6) (ht : t < kn) (hd : f (320 + l) < 0) : AI 100 kn ml (upd f (320 + l) (nI t)) := by
  obtain ⟨h1, h2, h3, h4, ⟨rk, h5⟩, h6⟩ := h
  have en : ∀ u c, u < kn → c < 32 → upd f (320 + l) (nI t) (32 * u + c) = f (32 * u + c) := fun u c hu hc => pk_un (by omega)
  have hno : ∀ u, u < kn → f (32 * u + 0) = 1 → ∀ k, k < 6 → f (32 * u + 9) = nI k → k ≠ l := by
    intro u hu hs k hk6 hf e
    subst e
    obtain ⟨k2, hk2, a, b, hb, c⟩ := h3 u hu (by omega) hs
    have : k = k2 := nI_inj (hf.symm.trans a) (by omega) (by omega)
    subst this
    rw [c] at hd
    exact nI_pos (by omega) hd
  refine ⟨fun u hu hx => ?_, fun u hu => ?_, fun u hu hx hs => ?_, fun k hk6 => ?_, ⟨rk, fun u k q hu hx hk6 hq hs hf hd2 => ?_⟩, fun u hu => ?_⟩
  · rw [en u 0 hu (by omega), en u 1 hu (by omega)]; exact h1 u hu hx
  · rw [en u 5 hu (by omega)]; exact h2 u hu
  · rw [en u 0 hu (by omega)] at hs
    obtain ⟨k, hk6, a, b, hb, c⟩ := h3 u hu hx hs
    exact ⟨k, hk6, by rw [en u 9 hu (by omega)]; exact a, b, hb, by rw [pk_un (show 320 + k ≠ 320 + l by have := hno u hu hs k hk6 a; omega)]; exact c⟩
  · by_cases e : k = l
    · subst e; exact Or.inr ⟨t, ht, pk_us⟩
    · rw [pk_un (show 320 + k ≠ 320 + l by omega)]; exact h4 k hk6
  · rw [en u 0 hu (by omega)] at hs; rw [en u 9 hu (by omega)] at hf
    rw [pk_un (show 320 + k ≠ 320 + l by have := hno u hu hs k hk6 hf; omega)] at hd2
    exact h5 u k q hu hx hk6 hq hs hf hd2
  · rw [en u 14 hu (by omega)]; exact h6 u hu
/-- nobody waits for it: it is let go -/
theorem AI.free {kn l : Nat} {ml : Nat → Nat} {f : Nat → Int32} (h : AI 100 kn ml f) (hk : kn ≤ 10) (hl : l < 6) (hno : ∀ u, u < kn → ¬ (f (32 * u + 0) = 1 ∧ f (32 * u + 9) = nI l)) : AI 100 kn ml (upd f (320 + l) (-1)) := by
  obtain ⟨h1, h2, h3, h4, ⟨rk, h5⟩, h6⟩ := h
  have en : ∀ u c, u < kn → c < 32 → upd f (320 + l) (-1) (32 * u + c) = f (32 * u + c) := fun u c hu hc => pk_un (by omega)
  refine ⟨fun u hu hx => ?_, fun u hu => ?_, fun u hu hx hs => ?_, fun k hk6 => ?_, ⟨rk, fun u k q hu hx hk6 hq hs hf hd2 => ?_⟩, fun u hu => ?_⟩
  · rw [en u 0 hu (by omega), en u 1 hu (by omega)]; exact h1 u hu hx
  · rw [en u 5 hu (by omega)]; exact h2 u hu
  · rw [en u 0 hu (by omega)] at hs
    obtain ⟨k, hk6, a, b, hb, c⟩ := h3 u hu hx hs
    exact ⟨k, hk6, by rw [en u 9 hu (by omega)]; exact a, b, hb, by rw [pk_un (show 320 + k ≠ 320 + l by intro e; obtain rfl : k = l := (by omega); exact hno u hu ⟨hs, a⟩)]; exact c⟩
  · by_cases e : k = l
    · subst e; exact Or.inl pk_us
    · rw [pk_un (show 320 + k ≠ 320 + l by omega)]; exact h4 k hk6
  · rw [en u 0 hu (by omega)] at hs; rw [en u 9 hu (by omega)] at hf
    rw [pk_un (show 320 + k ≠ 320 + l by intro e; obtain rfl : k = l := (by omega); exact hno u hu ⟨hs, hf⟩)] at hd2
    exact h5 u k q hu hx hk6 hq hs hf hd2
  · rw [en u 14 hu (by omega)]; exact h6 u hu
/-- it goes to one that waits for it -/
theorem AI.give {kn l b : Nat} {ml : Nat → Nat} {f : Nat → Int32} (h : AI 100 kn ml f) (hk : kn ≤ 10) (hl : l < 6) (hb : b < kn) (hs0 : f (32 * b + 0) = 1) (hf0 : f (32 * b + 9) = nI l) : AI b kn ml (upd (upd f (320 + l) (-1)) (320 + l) (nI b)) := by
  rw [show upd (upd f (320 + l) (-1)) (320 + l) (nI b) = upd f (320 + l) (nI b) from funext fun j => by unfold upd; split <;> rfl]
  obtain ⟨h1, h2, h3, h4, ⟨rk, h5⟩, h6⟩ := h
  have en : ∀ u c, u < kn → c < 32 → upd f (320 + l) (nI b) (32 * u + c) = f (32 * u + c) := fun u c hu hc => pk_un (by omega)
  refine ⟨fun u hu hx => ?_, fun u hu => ?_, fun u hu hx hs => ?_, fun k hk6 => ?_, ⟨fun u => if u = b then 0 else rk u, fun u k q hu hx hk6 hq hs hf hd2 => ?_⟩, fun u hu => ?_⟩
  · rw [en u 0 hu (by omega), en u 1 hu (by omega)]; exact h1 u hu (by omega)
  · rw [en u 5 hu (by omega)]; exact h2 u hu
  · rw [en u 0 hu (by omega)] at hs
    obtain ⟨k, hk6, a, c, hc, e⟩ := h3 u hu (by omega) hs
    by_cases e1 : k = l
    · subst e1; exact ⟨k, hk6, by rw [en u 9 hu (by omega)]; exact a, b, hb, pk_us⟩
    · exact ⟨k, hk6, by rw [en u 9 hu (by omega)]; exact a, c, hc, by rw [pk_un (show 320 + k ≠ 320 + l by omega)]; exact e⟩
  · by_cases e : k = l
    · subst e; exact Or.inr ⟨b, hb, pk_us⟩
    · rw [pk_un (show 320 + k ≠ 320 + l by omega)]; exact h4 k hk6
  · rw [en u 0 hu (by omega)] at hs; rw [en u 9 hu (by omega)] at hf
    have hpos : 0 < rk u := by
      obtain ⟨k3, hk3, a, c, hc, e⟩ := h3 u hu (by omega) hs
      have := h5 u k3 c hu (by omega) hk3 hc hs a e
      omega
    show (if q = b then 0 else rk q) < (if u = b then 0 else rk u)
    rw [if_neg hx]
    by_cases eq : q = b
    · rw [if_pos eq]; exact hpos
    · rw [if_neg eq]
      by_cases e : k = l
      · subst e; rw [pk_us] at hd2; exact absurd (nI_inj hd2.symm (by omega) (by omega)) eq
      · rw [pk_un (show 320 + k ≠ 320 + l by omega)] at hd2
        exact h5 u k q hu (by omega) hk6 hq hs hf hd2
  · rw [en u 14 hu (by omega)]; exact h6 u hu
/-- t waits for a lock whose holder's chain (P) does not come to t -/
theorem AI.lock {kn l t h0 : Nat} {ml : Nat → Nat} {f : Nat → Int32} {P : Nat → Bool} (h : AI 100 kn ml f) (hk : kn ≤ 10) (hl : l < 6) (ht : t < kn) (hs0 : f (32 * t + 0) = 0) (hd0 : f (320 + l) = nI h0) (hh0 : h0 < kn)
    (hP0 : P h0 = true) (hPt : P t = false) (hPc : ∀ u k q, u < kn → k < 6 → q < kn → P u = true → f (32 * u + 0) = 1 → f (32 * u + 9) = nI k → f (320 + k) = nI q → P q = true) :
    AI 100 kn ml (upd (upd f (32 * t + 0) 1) (32 * t + 9) (nI l)) := by
  obtain ⟨h1, h2, h3, h4, ⟨rk, h5⟩, h6⟩ := h
  have en : ∀ u c, u < kn → c < 32 → c ≠ 0 → c ≠ 9 → upd (upd f (32 * t + 0) 1) (32 * t + 9) (nI l) (32 * u + c) = f (32 * u + c) := fun u c hu hc _ _ => by rw [pk_un (by omega), pk_un (by omega)]
  have e0 : ∀ u, u < kn → u ≠ t → upd (upd f (32 * t + 0) 1) (32 * t + 9) (nI l) (32 * u + 0) = f (32 * u + 0) := fun u hu _ => by rw [pk_un (by omega), pk_un (by omega)]
  have e9 : ∀ u, u < kn → u ≠ t → upd (upd f (32 * t + 0) 1) (32 * t + 9) (nI l) (32 * u + 9) = f (32 * u + 9) := fun u hu _ => by rw [pk_un (by omega), pk_un (by omega)]
  have t0 : upd (upd f (32 * t + 0) 1) (32 * t + 9) (nI l) (32 * t + 0) = 1 := by rw [pk_un (by omega), pk_us]
  have t9 : upd (upd f (32 * t + 0) 1) (32 * t + 9) (nI l) (32 * t + 9) = nI l := pk_us
  have eh : ∀ k, k < 6 → upd (upd f (32 * t + 0) 1) (32 * t + 9) (nI l) (320 + k) = f (320 + k) := fun k hk => by rw [pk_un (by omega), pk_un (by omega)]
  refine ⟨fun u hu hx => ?_, fun u hu => ?_, fun u hu hx hs => ?_, fun k hk6 => ?_, ⟨fun u => if P u = true then rk u else rk u + rk h0 + 1, fun u k q hu hx hk6 hq hs hf hd2 => ?_⟩, fun u hu => ?_⟩
  · rw [en u 1 hu (by omega) (by omega) (by omega)]
    by_cases e : u = t
    · subst e
      rcases h1 u hu hx with h | h
      · rw [hs0] at h; exact absurd h (by decide +kernel)
      · exact Or.inr h
    · rw [e0 u hu e]; exact h1 u hu hx
  · rw [en u 5 hu (by omega) (by omega) (by omega)]; exact h2 u hu
  · by_cases e : u = t
    · subst e; exact ⟨l, hl, t9, h0, hh0, by rw [eh l hl]; exact hd0⟩
    · rw [e0 u hu e] at hs
      obtain ⟨k, hk6, a, b, hb, c⟩ := h3 u hu hx hs
      exact ⟨k, hk6, by rw [e9 u hu e]; exact a, b, hb, by rw [eh k hk6]; exact c⟩
  · rw [eh k hk6]; exact h4 k hk6
  · rw [eh k hk6] at hd2
    show (if P q = true then rk q else rk q + rk h0 + 1) < (if P u = true then rk u else rk u + rk h0 + 1)
    by_cases e : u = t
    · subst e
      rw [t9] at hf
      obtain rfl : l = k := nI_inj hf (by omega) (by omega)
      obtain rfl : q = h0 := nI_inj (hd2.symm.trans hd0) (by omega) (by omega)
      rw [if_pos hP0, if_neg (by rw [hPt]; decide)]
      omega
    · rw [e0 u hu e] at hs; rw [e9 u hu e] at hf
      have hr := h5 u k q hu hx hk6 hq hs hf hd2
      by_cases hu2 : P u = true
      · rw [if_pos (hPc u k q hu hk6 hq hu2 hs hf hd2), if_pos hu2]; exact hr
      · rw [if_neg hu2]
        split <;> omega
  · rw [en u 14 hu (by omega) (by omega) (by omega)]; exact h6 u hu
/-- a rank of at most 10 -/
theorem cp_lt {p q : Nat → Bool} (h : ∀ z, p z = true → q z = true) {y : Nat} (hy : q y = true) (hn : p y = false) : ∀ n, y < n → (List.range n).countP p < (List.range n).countP q := by
  have mono : ∀ n, (List.range n).countP p ≤ (List.range n).countP q := fun n => List.countP_mono_left (fun z _ hz => h z hz)
  intro n
  induction n with
  | zero => intro h; omega
  | succ n ih =>
    intro hlt
    rw [List.range_succ, List.countP_append, List.countP_append]
    by_cases e : y = n
    · subst e
      have := mono y
      simp only [List.countP_singleton, hy, hn]
      simp
      omega
    · have h1 := ih (by omega)
      have h2 : (List.countP p [n]) ≤ (List.countP q [n]) := List.countP_mono_left (fun z _ hz => h z hz)
      omega
theorem AI.rank {kn : Nat} {ml : Nat → Nat} {f : Nat → Int32} (h : AI 100 kn ml f) (hk : kn ≤ 10) : ∃ rk : Nat → Nat, (∀ t, rk t ≤ 10) ∧ (∀ t l h, t < kn → l < 6 → h < kn → f (32 * t + 0) = 1 → f (32 * t + 9) = nI l → f (320 + l) = nI h → rk h < rk t) := by
  obtain ⟨-, -, -, -, ⟨rk, h5⟩, -⟩ := h
  refine ⟨fun t => (List.range 10).countP (fun z => decide (rk z < rk t)), fun t => ?_, fun t l q ht hl hq hs hf hd => ?_⟩
  · have h1 := List.countP_le_length (p := fun z => decide (rk z < rk t)) (l := List.range 10)
    rw [List.length_range] at h1
    exact h1
  · have hr := h5 t l q ht (by omega) hl hq hs hf hd
    refine cp_lt (y := q) (fun z hz => ?_) ?_ ?_ 10 (by omega)
    · have := of_decide_eq_true hz; exact decide_eq_true (by omega)
    · exact decide_eq_true hr
    · exact decide_eq_false (by omega)
/-! COUNTS: of those that aren't ENDED, of those that are LOCKED -/
def cnt (q : Int32) (b : Bool) : Nat → (Nat → Int32) → Nat
  | 0, _ => 0
  | n + 1, f => cnt q b n f + (if decide (f (32 * n + 0) = q) = b then 1 else 0)
theorem cnt_le (q : Int32) (b : Bool) (f : Nat → Int32) : ∀ n, cnt q b n f ≤ n := by
  intro n
  induction n with
  | zero => exact Nat.le_refl _
  | succ n ih => show cnt q b n f + _ ≤ _; split <;> omega
theorem cnt_mono {q : Int32} {b : Bool} {f g : Nat → Int32} : ∀ n, (∀ k, k < n → decide (g (32 * k + 0) = q) = b → decide (f (32 * k + 0) = q) = b) → cnt q b n g ≤ cnt q b n f := by
  intro n
  induction n with
  | zero => intro _; exact Nat.le_refl _
  | succ n ih =>
    intro h
    have h1 := ih (fun k hk => h k (by omega))
    have h2 := h n (by omega)
    show cnt q b n g + _ ≤ cnt q b n f + _
    by_cases e : decide (g (32 * n + 0) = q) = b
    · rw [if_pos e, if_pos (h2 e)]; omega
    · rw [if_neg e]; omega
theorem cnt_drop {q : Int32} {b : Bool} {f g : Nat → Int32} {t : Nat} (hf : decide (f (32 * t + 0) = q) = b) (hg : ¬ decide (g (32 * t + 0) = q) = b) : ∀ n, t < n → (∀ k, k < n → decide (g (32 * k + 0) = q) = b → decide (f (32 * k + 0) = q) = b) → cnt q b n g + 1 ≤ cnt q b n f := by
  intro n
  induction n with
  | zero => intro h; omega
  | succ n ih =>
    intro ht h
    show cnt q b n g + _ + 1 ≤ cnt q b n f + _
    by_cases e : t = n
    · subst e
      have h1 := cnt_mono t (fun k hk => h k (by omega))
      rw [if_neg hg, if_pos hf]; omega
    · have h1 := ih (by omega) (fun k hk => h k (by omega))
      have h2 := h n (by omega)
      by_cases e2 : decide (g (32 * n + 0) = q) = b
      · rw [if_pos e2, if_pos (h2 e2)]; omega
      · rw [if_neg e2]; omega
/-- not ENDED -/
abbrev cE (n : Nat) (f : Nat → Int32) : Nat := cnt 4 false n f
/-- LOCKED -/
abbrev cL (n : Nat) (f : Nat → Int32) : Nat := cnt 1 true n f
/-- who is READY stays so, but x -/
def KR (x kn : Nat) (f g : Nat → Int32) : Prop := (∀ k, k < kn → k ≠ x → f (32 * k + 0) = 0 → g (32 * k + 0) = 0) ∧ g 330 = f 330
/-- no state changes, nor the tick -/
def KS (kn : Nat) (f g : Nat → Int32) : Prop := (∀ k, k < kn → g (32 * k + 0) = f (32 * k + 0)) ∧ g 330 = f 330
def PI (kn kp : Nat) (f pl : Nat → Int32) : Prop := kp + cE kn f ≤ 10 ∧ ∀ j, j < kp → ∃ p, p ≤ 6 ∧ pl j = nI p
theorem KR.rf {x kn : Nat} {f : Nat → Int32} : KR x kn f f := ⟨fun _ _ _ h => h, rfl⟩
theorem KR.tr {x kn : Nat} {f g h : Nat → Int32} (a : KR x kn f g) (b : KR x kn g h) : KR x kn f h := ⟨fun k hk hx e => b.1 k hk hx (a.1 k hk hx e), b.2.trans a.2⟩
theorem KR.of {x kn : Nat} {f g : Nat → Int32} (hk : kn ≤ 10) (a : KR 100 kn f g) : KR x kn f g := ⟨fun k h _ e => a.1 k h (by omega) e, a.2⟩
theorem KS.kr {x kn : Nat} {f g : Nat → Int32} (a : KS kn f g) : KR x kn f g := ⟨fun k hk _ e => (a.1 k hk).trans e, a.2⟩
theorem KS.rf {kn : Nat} {f : Nat → Int32} : KS kn f f := ⟨fun _ _ => rfl, rfl⟩
theorem KS.tr {kn : Nat} {f g h : Nat → Int32} (a : KS kn f g) (b : KS kn g h) : KS kn f h := ⟨fun k hk => (b.1 k hk).trans (a.1 k hk), b.2.trans a.2⟩
theorem KS.o {kn : Nat} {f g : Nat → Int32} (a : KS kn f g) (hk : kn ≤ 10) {i : Nat} {v : Int32} (h1 : i ≠ 330) (h2 : i < 320 → i % 32 ≠ 0) : KS kn f (upd g i v) := ⟨fun k hk => by rw [pk_un (by omega)]; exact a.1 k hk, by rw [pk_un (Ne.symm h1)]; exact a.2⟩
theorem PI.z {kn : Nat} {f pl : Nat → Int32} (hk : kn ≤ 10) : PI kn 0 f pl := ⟨by have : cE kn f ≤ kn := cnt_le 4 false f kn; omega, fun j h => by omega⟩
theorem PI.ks {kn kp : Nat} {f g pl : Nat → Int32} (h : PI kn kp f pl) (e : KS kn f g) : PI kn kp g pl := ⟨by have : cE kn g ≤ cE kn f := cnt_mono (q := 4) (b := false) (f := f) (g := g) kn (fun k hk => by rw [e.1 k hk]; exact id); have := h.1; omega, h.2⟩
/-- what 'done' does to the state -/
def DN (kn : Nat) (ml : Nat → Nat) (k : Nat) (f g : Nat → Int32) (kp kq : Nat) (ql : Nat → Int32) : Prop := AI 100 kn ml g ∧ KR k kn f g ∧ PI kn kq g ql ∧ cL kn g + (if f (32 * k + 0) = 1 then 1 else 0) ≤ cL kn f ∧ kq ≤ kp + 1
theorem dn_L {kn k : Nat} {f g : Nat → Int32} (hk : k < kn) (h1 : ∀ u, u < kn → u ≠ k → g (32 * u + 0) = f (32 * u + 0)) (h2 : ¬ g (32 * k + 0) = 1) : cL kn g + (if f (32 * k + 0) = 1 then 1 else 0) ≤ cL kn f := by
  have hm : ∀ u, u < kn → decide (g (32 * u + 0) = 1) = true → decide (f (32 * u + 0) = 1) = true := by
    intro u hu h
    by_cases e : u = k
    · subst e; exact absurd (of_decide_eq_true h) h2
    · rw [h1 u hu e] at h; exact h
  by_cases e : f (32 * k + 0) = 1
  · rw [if_pos e]
    exact cnt_drop (decide_eq_true e) (fun h => h2 (of_decide_eq_true h)) kn hk hm
  · rw [if_neg e]
    exact cnt_mono kn hm
theorem dn_K {kn k : Nat} {f g : Nat → Int32} (h1 : ∀ u, u < kn → u ≠ k → g (32 * u + 0) = f (32 * u + 0)) (h2 : g 330 = f 330) : KR k kn f g := ⟨fun u hu hx e => (h1 u hu hx).trans e, h2⟩
theorem dn_E {kn k : Nat} {f g : Nat → Int32} (hk : k < kn) (h1 : ∀ u, u < kn → u ≠ k → g (32 * u + 0) = f (32 * u + 0)) (h2 : g (32 * k + 0) = 4) (h3 : ¬ f (32 * k + 0) = 4) : cE kn g + 1 ≤ cE kn f := by
  refine cnt_drop (t := k) (decide_eq_false h3) (fun h => of_decide_eq_false h h2) kn hk ?_
  intro u hu h
  by_cases e : u = k
  · subst e; exact absurd h2 (of_decide_eq_false h)
  · rw [h1 u hu e] at h; exact h
theorem dn_0 {kn k : Nat} {f g : Nat → Int32} (h1 : ∀ u, u < kn → u ≠ k → g (32 * u + 0) = f (32 * u + 0)) (h3 : ¬ f (32 * k + 0) = 4) : cE kn g ≤ cE kn f := by
  refine cnt_mono kn ?_
  intro u hu h
  by_cases e : u = k
  · subst e; exact decide_eq_false h3
  · rw [h1 u hu e] at h; exact h
theorem PI.up {kn kp : Nat} {f g pl : Nat → Int32} (h : PI kn kp f pl) (e : cE kn g + 1 ≤ cE kn f) : PI kn (kp + 1) g (upd pl kp 0) := by
  refine ⟨by have := h.1; omega, fun j hj => ?_⟩
  by_cases e2 : j = kp
  · subst e2; exact ⟨0, by omega, pk_us⟩
  · rw [pk_un e2]; exact h.2 j (by omega)
/-- done, and more is to do -/
theorem dn_1 {kn k jo kp : Nat} {ml : Nat → Nat} {f pl : Nat → Int32} {x : Int32} (h : AI k kn ml f) (hkn : kn ≤ 10) (hk : k < kn) (h4 : ¬ f (32 * k + 0) = 4) (hj : jo + 1 < ml k) (hp : PI kn kp f pl) :
    DN kn ml k f (upd (upd (upd (upd f (32 * k + 0) 0) (32 * k + 9) (-1)) (32 * k + 1) (nI (jo + 1))) (32 * k + 2) x) kp kp pl := by
  have hg : ∀ u, u < kn → u ≠ k → (upd (upd (upd (upd f (32 * k + 0) 0) (32 * k + 9) (-1)) (32 * k + 1) (nI (jo + 1))) (32 * k + 2) x) (32 * u + 0) = f (32 * u + 0) := fun u hu hx => by rw [pk_un (by omega), pk_un (by omega), pk_un (by omega), pk_un (by omega)]
  have h0 : (upd (upd (upd (upd f (32 * k + 0) 0) (32 * k + 9) (-1)) (32 * k + 1) (nI (jo + 1))) (32 * k + 2) x) (32 * k + 0) = 0 := by rw [pk_un (by omega), pk_un (by omega), pk_un (by omega), pk_us]
  have hn1 : ¬ (upd (upd (upd (upd f (32 * k + 0) 0) (32 * k + 9) (-1)) (32 * k + 1) (nI (jo + 1))) (32 * k + 2) x) (32 * k + 0) = 1 := by rw [h0]; decide +kernel
  refine ⟨AI.full (t := k) ?_ (Or.inr ⟨jo + 1, hj, by rw [pk_un (by omega), pk_us]⟩) hn1, dn_K hg (by rw [pk_un (by omega), pk_un (by omega), pk_un (by omega), pk_un (by omega)]), ⟨by have := dn_0 hg h4; have := hp.1; omega, hp.2⟩, dn_L hk hg hn1, by omega⟩
  exact ((((h.st hkn hk (by decide +kernel) (Or.inl rfl)).fr hkn hk (Or.inl rfl)).op hkn hk (Or.inl rfl)).o hkn (by unfold rel; omega))
/-- done, and that was all -/
theorem dn_2 {kn k jo kp : Nat} {ml : Nat → Nat} {f pl : Nat → Int32} {x : Int32} (h : AI k kn ml f) (hkn : kn ≤ 10) (hk : k < kn) (h4 : ¬ f (32 * k + 0) = 4) (hp : PI kn kp f pl) :
    DN kn ml k f (upd (upd (upd (upd (upd (upd f (32 * k + 0) 0) (32 * k + 9) (-1)) (32 * k + 1) (nI (jo + 1))) (32 * k + 2) x) (32 * k + 0) 4) (32 * k + 9) (-1)) kp (kp + 1) (upd pl kp 0) := by
  have hg : ∀ u, u < kn → u ≠ k → (upd (upd (upd (upd (upd (upd f (32 * k + 0) 0) (32 * k + 9) (-1)) (32 * k + 1) (nI (jo + 1))) (32 * k + 2) x) (32 * k + 0) 4) (32 * k + 9) (-1)) (32 * u + 0) = f (32 * u + 0) := fun u hu hx => by rw [pk_un (by omega), pk_un (by omega), pk_un (by omega), pk_un (by omega), pk_un (by omega), pk_un (by omega)]
  have h0 : (upd (upd (upd (upd (upd (upd f (32 * k + 0) 0) (32 * k + 9) (-1)) (32 * k + 1) (nI (jo + 1))) (32 * k + 2) x) (32 * k + 0) 4) (32 * k + 9) (-1)) (32 * k + 0) = 4 := by rw [pk_un (by omega), pk_us]
  have hn1 : ¬ (upd (upd (upd (upd (upd (upd f (32 * k + 0) 0) (32 * k + 9) (-1)) (32 * k + 1) (nI (jo + 1))) (32 * k + 2) x) (32 * k + 0) 4) (32 * k + 9) (-1)) (32 * k + 0) = 1 := by rw [h0]; decide +kernel
  refine ⟨AI.full (t := k) ?_ (Or.inl h0) hn1, dn_K hg (by rw [pk_un (by omega), pk_un (by omega), pk_un (by omega), pk_un (by omega), pk_un (by omega), pk_un (by omega)]), hp.up (dn_E hk hg h0 h4), dn_L hk hg hn1, by omega⟩
  exact ((((((h.st hkn hk (by decide +kernel) (Or.inl rfl)).fr hkn hk (Or.inl rfl)).op hkn hk (Or.inl rfl)).o hkn (by unfold rel; omega)).st hkn hk (by decide +kernel) (Or.inl rfl)).fr hkn hk (Or.inl rfl))
/-- a task ends -/
theorem dn_e {kn k kp : Nat} {ml : Nat → Nat} {f f0 pl : Nat → Int32} (h : AI 100 kn ml f) (hkn : kn ≤ 10) (hk : k < kn) (h4 : ¬ f0 (32 * k + 0) = 4) (hs : KS kn f0 f) (hp : PI kn kp f0 pl) :
    DN kn ml k f0 (upd (upd f (32 * k + 0) 4) (32 * k + 9) (-1)) kp (kp + 1) (upd pl kp 0) := by
  have hg : ∀ u, u < kn → u ≠ k → (upd (upd f (32 * k + 0) 4) (32 * k + 9) (-1)) (32 * u + 0) = f0 (32 * u + 0) := fun u hu hx => by rw [pk_un (by omega), pk_un (by omega)]; exact hs.1 u hu
  have h0 : (upd (upd f (32 * k + 0) 4) (32 * k + 9) (-1)) (32 * k + 0) = 4 := by rw [pk_un (by omega), pk_us]
  have hn1 : ¬ (upd (upd f (32 * k + 0) 4) (32 * k + 9) (-1)) (32 * k + 0) = 1 := by rw [h0]; decide +kernel
  refine ⟨?_, dn_K hg (by rw [pk_un (by omega), pk_un (by omega)]; exact hs.2), hp.up (dn_E hk hg h0 h4), dn_L hk hg hn1, by omega⟩
  exact (h.st hkn hk (by decide +kernel) (Or.inr (Or.inl rfl))).fr hkn hk (Or.inr (by rw [pk_us]; decide +kernel))
/-- each that is LOCKED names a lock -/
def WI (kn : Nat) (f : Nat → Int32) : Prop := ∀ k, k < kn → f (32 * k + 0) = 1 → ∃ l, l < 6 ∧ f (32 * k + 9) = nI l
theorem AI.wi {kn : Nat} {ml : Nat → Nat} {f : Nat → Int32} (h : AI 100 kn ml f) (hk : kn ≤ 10) : WI kn f := fun k h1 h2 => by
  obtain ⟨l, hl, e, -⟩ := h.2.2.1 k h1 (by omega) h2
  exact ⟨l, hl, e⟩
theorem WI.h {kn l : Nat} {f : Nat → Int32} {v : Int32} (h : WI kn f) (hk : kn ≤ 10) : WI kn (upd f (320 + l) v) := fun k h1 h2 => by
  rw [pk_un (by omega)] at h2 ⊢
  exact h k h1 h2
/-! THE PLAN OF A BANK -/
def PL1 (kb kn : Nat) (ml fs : Nat → Nat) (fmy ffi fnu : Nat → Int32) : Prop := ∀ t, t < kn → fmy (10 * kb + t) = nI (ml t) ∧ ffi (10 * kb + t) = nI (fs t) ∧ fs t + ml t ≤ 90 ∧ ∀ j, j < ml t → ∃ v, v ≤ 99 ∧ fnu (90 * kb + fs t + j) = nI v
def PL2 (kb kn : Nat) (fki fev fbu fsh : Nat → Int32) : Prop := ∀ t, t < kn → ¬ fsh (10 * kb + t) = 0 ∧ (3 ≤ fki (10 * kb + t) → (∃ e, 1 ≤ e ∧ e ≤ 20 ∧ fev (10 * kb + t) = nI e) ∧ (∃ b, b ≤ 99 ∧ fbu (10 * kb + t) = nI b))
/-! BITS OF SETS OF TASKS -/
theorem sh1 : ∀ k, k < 10 → (1 : Int32) <<< (nI k &&& 31) = nI (2 ^ k) := by decide +kernel
theorem p2lt : ∀ k, k < 10 → 2 ^ k < 1024 := by decide +kernel
theorem nI_or (a b : Nat) : nI a ||| nI b = nI (a ||| b) := by
  apply Int32.toBitVec_inj.mp
  rw [Int32.toBitVec_or]
  exact BitVec.ofNat_or.symm
theorem or_lt10 {a k : Nat} (h : a < 1024) (hk : k < 10) : a ||| 2 ^ k < 1024 := Nat.or_lt_two_pow (n := 10) h (p2lt k hk)
/-! LETTING GO -/
def LB (kn l : Nat) (g : Nat → Int32) (i : Nat) (b : Int32) : Prop := (b = -1 ∧ ∀ u, u < i → ¬ (g (32 * u + 0) = 1 ∧ g (32 * u + 9) = nI l)) ∨ ∃ j, j < kn ∧ b = nI j ∧ g (32 * j + 0) = 1 ∧ g (32 * j + 9) = nI l
theorem LB.z {kn l : Nat} {g : Nat → Int32} : LB kn l g 0 (-1) := Or.inl ⟨rfl, fun u h => by omega⟩
theorem LB.set {kn l i : Nat} {g : Nat → Int32} (h : i < kn) (d : g (32 * i + 0) = 1 ∧ g (32 * i + 9) = nI l) : LB kn l g (i + 1) (nI i) := Or.inr ⟨i, h, rfl, d.1, d.2⟩
theorem LB.skip {kn l i : Nat} {g : Nat → Int32} {b : Int32} (h : LB kn l g i b) (d : ¬ (g (32 * i + 0) = 1 ∧ g (32 * i + 9) = nI l)) : LB kn l g (i + 1) b := by
  rcases h with ⟨h1, h2⟩ | h
  · refine Or.inl ⟨h1, fun u hu => ?_⟩
    by_cases e : u = i
    · subst e; exact d
    · exact h2 u (by omega)
  · exact Or.inr h
theorem LB.nat {kn l i : Nat} {g : Nat → Int32} {b : Int32} (h : LB kn l g i b) (c : ¬ b < 0) : ∃ j, j < kn ∧ b = nI j ∧ g (32 * j + 0) = 1 ∧ g (32 * j + 9) = nI l := by
  rcases h with ⟨h1, h2⟩ | h
  · rw [h1] at c; exact absurd (by decide +kernel) c
  · exact h
theorem LB.keep {kn l i j : Nat} {g : Nat → Int32} (h : LB kn l g i (nI j)) (hj : j < 2 ^ 31) : LB kn l g (i + 1) (nI j) := Or.inr (h.nat (nI_pos hj))
def LG (kn : Nat) (ml : Nat → Nat) (f g : Nat → Int32) (kp kq : Nat) (pl ql : Nat → Int32) : Prop := AI 100 kn ml g ∧ KR 100 kn f g ∧ PI kn kq g ql ∧ kq ≤ kp + 1 ∧ (cL kn g + 1 ≤ cL kn f ∨ (cL kn g ≤ cL kn f ∧ kq = kp ∧ ql = pl))
theorem lg_0 {kn l i kp : Nat} {ml : Nat → Nat} {f pl : Nat → Int32} {b : Int32} (h : AI 100 kn ml f) (hkn : kn ≤ 10) (hl : l < 6) (hp : PI kn kp f pl) (hb : LB kn l (upd f (320 + l) (-1)) i b) (hi : kn ≤ i) (c : ¬ 0 ≤ b) : LG kn ml f (upd f (320 + l) (-1)) kp kp pl pl := by
  have ks : KS kn f (upd f (320 + l) (-1)) := KS.rf.o hkn (by omega) (by omega)
  refine ⟨h.free hkn hl ?_, ks.kr, hp.ks ks, by omega, Or.inr ⟨cnt_mono kn (fun k hk => by rw [ks.1 k hk]; exact id), rfl, rfl⟩⟩
  rcases hb with ⟨h1, h2⟩ | ⟨j, hj, e, -⟩
  · intro u hu
    have := h2 u (by omega)
    rw [pk_un (by omega), pk_un (by omega)] at this
    exact this
  · subst e; exact absurd (nI_pos' (by omega)) c
theorem AI.opx {kn k : Nat} {ml : Nat → Nat} {f : Nat → Int32} (h : AI 100 kn ml f) (hkn : kn ≤ 10) (hk : k < kn) (h4 : ¬ f (32 * k + 0) = 4) : ∃ j, j < ml k ∧ f (32 * k + 1) = nI j := (h.1 k hk (by omega)).resolve_left h4
theorem lg_1 {kn l b kp kq : Nat} {ml : Nat → Nat} {f g pl ql : Nat → Int32} (hkn : kn ≤ 10) (hl : l < 6) (hb : b < kn) (hs : f (32 * b + 0) = 1) (d : DN kn ml b (upd (upd f (320 + l) (-1)) (320 + l) (nI b)) g kp kq ql) : LG kn ml f g kp kq pl ql := by
  obtain ⟨d1, d2, d3, d4, d5⟩ := d
  have e0 : ∀ u, u < kn → upd (upd f (320 + l) (-1)) (320 + l) (nI b) (32 * u + 0) = f (32 * u + 0) := fun u hu => by rw [pk_un (by omega), pk_un (by omega)]
  refine ⟨d1, ⟨fun k hk _ e => ?_, ?_⟩, d3, d5, Or.inl ?_⟩
  · refine d2.1 k hk ?_ (by rw [e0 k hk]; exact e)
    intro e2
    subst e2
    rw [hs] at e
    exact absurd e (by decide +kernel)
  · rw [d2.2, pk_un (by omega), pk_un (by omega)]
  · rw [e0 b hb, if_pos hs] at d4
    have := cnt_mono (q := 1) (b := true) (f := f) (g := upd (upd f (320 + l) (-1)) (320 + l) (nI b)) kn (fun k hk => by rw [e0 k hk]; exact id)
    exact Nat.le_trans d4 this
/-! SETTLING -/
def tp (jp : Nat) (jl : Nat → Int32) : Nat := (jl (jp - 1)).toNatClampNeg
theorem PI.pop {kn jp : Nat} {f jl : Nat → Int32} {v : Int32} (h : PI kn jp f jl) : PI kn (jp - 1) f (upd jl (jp - 1) v) := ⟨by have := h.1; omega, fun j hj => by rw [pk_un (by omega)]; exact h.2 j (by omega)⟩
theorem PI.set {kn jp q : Nat} {f jl : Nat → Int32} (h : PI kn jp f jl) (hq : q ≤ 6) : PI kn jp f (upd jl (jp - 1) (nI q)) := by
  refine ⟨h.1, fun j hj => ?_⟩
  by_cases e : j = jp - 1
  · subst e; exact ⟨q, hq, pk_us⟩
  · rw [pk_un e]; exact h.2 j hj
theorem sm_pop {c jp n : Nat} {jl : Nat → Int32} {v : Int32} (hj : 0 < jp) (h : 20 * c + 8 * jp + (7 - tp jp jl) < n + 1) : 20 * c + 8 * (jp - 1) + (7 - tp (jp - 1) (upd jl (jp - 1) v)) < n := by omega
theorem sm_lets {kn jp kq p q n : Nat} {ml : Nat → Nat} {f g jl ql : Nat → Int32} (hj : 0 < jp) (ep : jl (jp - 1) = nI p) (hpq : p ≤ q) (hq : q < 6) (d : LG kn ml f g jp kq (upd jl (jp - 1) (nI (q + 1))) ql) (h : 20 * cL kn f + 8 * jp + (7 - tp jp jl) < n + 1) : 20 * cL kn g + 8 * kq + (7 - tp kq ql) < n := by
  obtain ⟨-, -, -, d5, d6⟩ := d
  have e1 : tp jp jl = p := by unfold tp; rw [ep]; exact nI_clamp (by omega)
  rcases d6 with d6 | ⟨d6, d7, d8⟩
  · omega
  · subst d7
    have e2 : tp kq ql = q + 1 := by unfold tp; rw [d8, pk_us]; exact nI_clamp (by omega)
    omega
