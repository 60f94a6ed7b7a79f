/-! LATER, LOAD, RISK -/
theorem lat_a {t b y : Int32} (d : 0 ≤ b ∧ b ≤ 1000) (c : y ≤ 100000) (e : y = t + b) : sp_lat t b = t + b ∧ sp_tim t b = t + b := by
  subst e
  unfold sp_lat sp_tim
  rw [if_neg (Int32.not_lt.mpr d.1), if_neg (Int32.not_lt.mpr d.2), if_pos c, if_neg (Int32.not_lt.mpr d.1), if_neg (Int32.not_lt.mpr d.2), if_pos c]
  exact ⟨rfl, rfl⟩
theorem lat_b {t b y : Int32} (d : 0 ≤ b ∧ b ≤ 1000) (c : ¬ y ≤ 100000) (e : y = t + b) : sp_lat t b = -1 ∧ sp_tim t b = t := by
  subst e
  unfold sp_lat sp_tim
  rw [if_neg (Int32.not_lt.mpr d.1), if_neg (Int32.not_lt.mpr d.2), if_neg c, if_neg (Int32.not_lt.mpr d.1), if_neg (Int32.not_lt.mpr d.2), if_neg c]
  exact ⟨rfl, rfl⟩
theorem lat_c {t b : Int32} (d : ¬ (0 ≤ b ∧ b ≤ 1000)) : sp_lat t b = -1 ∧ sp_tim t b = t := by
  unfold sp_lat sp_tim
  by_cases h : b < 0
  · rw [if_pos h, if_pos h]; exact ⟨rfl, rfl⟩
  · rw [if_neg h, if_neg h]
    have h2 : 1000 < b := Int32.not_le.mp (fun h3 => d ⟨Int32.not_lt.mp h, h3⟩)
    rw [if_pos h2, if_pos h2]; exact ⟨rfl, rfl⟩
theorem gcd_st {a b : Nat} : Nat.gcd b (a % b) = Nat.gcd a b := by
  rw [Nat.gcd_comm b (a % b), ← Nat.gcd_rec, Nat.gcd_comm]
theorem lN_0 {b : Nat} (h : lN b = 0) (hb : b < 2 ^ 63) : b = 0 := (pk_lEQ hb (by omega)).mp h
theorem lcmp_eq {x : Int64} {y : Int32} (h : y = 0) (e : y = lg_cmp x 0) : x = 0 := by
  rw [h] at e
  unfold lg_cmp at e
  by_cases h1 : x > 0
  · rw [if_pos h1] at e; exact absurd e (by decide +kernel)
  · rw [if_neg h1] at e
    by_cases h2 : x = 0
    · exact h2
    · rw [if_neg h2] at e; exact absurd e (by decide +kernel)
theorem lN_ne {b : Nat} (h : 0 < b) (hb : b < 2 ^ 63) : ¬ lN b = 0 := fun e => by have := lN_0 e hb; omega
def LD (i u d : Nat) : Prop := 1 ≤ d ∧ d ≤ 20 ^ i ∧ u ≤ 99 * i * d
theorem LD.z : LD 0 0 1 := ⟨by omega, by omega, by omega⟩
theorem LD.sk {i u d : Nat} (h : LD i u d) : LD (i + 1) u d := by
  obtain ⟨h1, h2, h3⟩ := h
  refine ⟨h1, Nat.le_trans h2 (Nat.pow_le_pow_right (by omega) (by omega)), Nat.le_trans h3 (Nat.mul_le_mul_right _ (by omega))⟩
theorem LD.up {i u d e b : Nat} (h : LD i u d) (h1 : 1 ≤ e) (h2 : e ≤ 20) (h3 : b ≤ 99) : LD (i + 1) (u * e + b * d) (d * e) := by
  obtain ⟨a, b1, c⟩ := h
  refine ⟨Nat.mul_pos a h1, ?_, ?_⟩
  · rw [Nat.pow_succ]; exact Nat.mul_le_mul b1 h2
  · have e1 : u * e ≤ 99 * i * d * e := Nat.mul_le_mul_right _ c
    have e2 : b * d ≤ 99 * (d * e) := Nat.mul_le_mul h3 (Nat.le_mul_of_pos_right d h1)
    have e3 : 99 * (i + 1) * (d * e) = 99 * i * d * e + 99 * (d * e) := by rw [Nat.mul_add, Nat.add_mul, Nat.mul_one, Nat.mul_assoc (99 * i)]
    omega
theorem LD.dv {i u d : Nat} (h : LD i u d) : LD i (u / Nat.gcd u d) (d / Nat.gcd u d) := by
  obtain ⟨a, b, c⟩ := h
  have hg : 0 < Nat.gcd u d := Nat.gcd_pos_of_pos_right _ a
  have hd : d / Nat.gcd u d * Nat.gcd u d = d := Nat.div_mul_cancel (Nat.gcd_dvd_right u d)
  have hu : u / Nat.gcd u d * Nat.gcd u d = u := Nat.div_mul_cancel (Nat.gcd_dvd_left u d)
  refine ⟨?_, Nat.le_trans (Nat.div_le_self _ _) b, ?_⟩
  · rcases Nat.eq_zero_or_pos (d / Nat.gcd u d) with e | e
    · rw [e, Nat.zero_mul] at hd; omega
    · exact e
  · refine Nat.le_of_mul_le_mul_right ?_ hg
    rw [hu, Nat.mul_assoc, hd]
    exact c
theorem LD.bd {i u d : Nat} (h : LD i u d) (hi : i ≤ 11) : d < 2 ^ 63 ∧ u < 2 ^ 63 := by
  obtain ⟨a, b, c⟩ := h
  have hb : d ≤ 20 ^ 11 := Nat.le_trans b (Nat.pow_le_pow_right (by omega) hi)
  have hc : u ≤ 99 * 11 * 20 ^ 11 := Nat.le_trans c (Nat.mul_le_mul (Nat.mul_le_mul_left _ hi) hb)
  exact ⟨Nat.lt_of_le_of_lt hb (by decide +kernel), Nat.lt_of_le_of_lt hc (by decide +kernel)⟩
/-- rows of locks: a counter -/
def rv (f : Nat → Int32) (q : Nat) : Nat := (6 - (f q).toInt).toNat
def mz : Nat → (Nat → Int32) → Nat
  | 0, _ => 0
  | d + 1, f => mz d f + rv f (d + 1) * 8 ^ (5 - d)
theorem mz_cg {f g : Nat → Int32} : ∀ d, (∀ q, q ≤ d → g q = f q) → mz d g = mz d f := by
  intro d
  induction d with
  | zero => intro _; rfl
  | succ d ih =>
    intro h
    show mz d g + rv g (d + 1) * 8 ^ (5 - d) = mz d f + rv f (d + 1) * 8 ^ (5 - d)
    rw [ih (fun q hq => h q (by omega))]
    unfold rv
    rw [h (d + 1) (Nat.le_refl _)]
def FR (d : Nat) (f : Nat → Int32) : Prop := (∀ q, q < d → ∃ v, v < 6 ∧ f q = nI v) ∧ (f d = -1 ∨ ∃ v, v < 6 ∧ f d = nI v)
theorem rv_m {f : Nat → Int32} {q : Nat} (h : f q = -1) : rv f q = 7 := by unfold rv; rw [h]; decide +kernel
theorem rv_n {f : Nat → Int32} {q v : Nat} (hv : v < 6) (h : f q = nI v) : rv f q = 6 - v := by
  unfold rv; rw [h, nI_toInt (by omega)]; omega
theorem FR.nx {d : Nat} {f : Nat → Int32} {y : Int32} (h : FR d f) (e : y = f d + 1) : ∃ k, k ≤ 6 ∧ y = nI k ∧ rv f d = 7 - k := by
  rcases h.2 with h | ⟨v, hv, h⟩
  · exact ⟨0, by omega, by rw [e, h]; decide +kernel, rv_m h⟩
  · exact ⟨v + 1, by omega, by rw [e, h, nI_1], by rw [rv_n hv h]; omega⟩
theorem FR.z {f : Nat → Int32} {k : Nat} (hk : k < 6) : FR 1 (upd (upd f 0 (nI k)) 1 (-1)) := ⟨fun q hq => ⟨k, hk, by obtain rfl : q = 0 := (by omega); rw [pk_un (by omega), pk_us]⟩, Or.inl pk_us⟩
theorem FR.dn {d : Nat} {f : Nat → Int32} {x : Int32} (h : FR d f) (hd : 1 ≤ d) : FR (d - 1) (upd f d x) := by
  refine ⟨fun q hq => ?_, Or.inr ?_⟩
  · rw [pk_un (by omega)]; exact h.1 q (by omega)
  · rw [pk_un (by omega)]; exact h.1 (d - 1) (by omega)
theorem FR.sm {d v : Nat} {f : Nat → Int32} (h : FR d f) (hv : v < 6) : FR d (upd f d (nI v)) := ⟨fun q hq => by rw [pk_un (by omega)]; exact h.1 q hq, Or.inr ⟨v, hv, pk_us⟩⟩
theorem FR.up {d v : Nat} {f : Nat → Int32} (h : FR d f) (hv : v < 6) : FR (d + 1) (upd (upd f d (nI v)) (d + 1) (-1)) := ⟨fun q hq => by rw [pk_un (by omega)]; exact if e : q = d then (by subst e; exact ⟨v, hv, pk_us⟩) else (by rw [pk_un e]; exact h.1 q (by omega)), Or.inl pk_us⟩
theorem mz_1 {d : Nat} {f : Nat → Int32} (hd : 1 ≤ d) : mz d f = mz (d - 1) f + rv f d * 8 ^ (6 - d) := by
  obtain ⟨d, rfl⟩ : ∃ e, d = e + 1 := ⟨d - 1, by omega⟩
  show mz d f + rv f (d + 1) * 8 ^ (5 - d) = mz d f + rv f (d + 1) * 8 ^ (6 - (d + 1))
  rw [show 6 - (d + 1) = 5 - d by omega]
theorem mz_dn {d k n : Nat} {f : Nat → Int32} {x : Int32} (hd : 1 ≤ d) (hk : k ≤ 6) (hr : rv f d = 7 - k) (h : mz d f < n + 1) : mz (d - 1) (upd f d x) < n := by
  rw [mz_cg (f := f) (d - 1) (fun q hq => pk_un (by omega))]
  rw [mz_1 hd, hr] at h
  have : 1 ≤ (7 - k) * 8 ^ (6 - d) := Nat.mul_pos (by omega) (Nat.pow_pos (by omega))
  omega
theorem mz_sm {d k v n : Nat} {f : Nat → Int32} (hd : 1 ≤ d) (hk : k ≤ v) (hv : v < 6) (hr : rv f d = 7 - k) (h : mz d f < n + 1) : mz d (upd f d (nI v)) < n := by
  rw [mz_1 hd, mz_cg (f := f) (d - 1) (fun q hq => pk_un (by omega)), rv_n hv pk_us]
  rw [mz_1 hd, hr] at h
  have h8 : 1 ≤ 8 ^ (6 - d) := Nat.pow_pos (by omega)
  have : (6 - v) * 8 ^ (6 - d) + 8 ^ (6 - d) ≤ (7 - k) * 8 ^ (6 - d) := by
    rw [← Nat.succ_mul]; exact Nat.mul_le_mul_right _ (by omega)
  omega
theorem mz_up {d k v n : Nat} {f : Nat → Int32} (hd : 1 ≤ d) (hd5 : d < 6) (hk : k ≤ v) (hv : v < 6) (hr : rv f d = 7 - k) (h : mz d f < n + 1) : mz (d + 1) (upd (upd f d (nI v)) (d + 1) (-1)) < n := by
  rw [mz_1 (d := d + 1) (by omega), mz_cg (f := upd f d (nI v)) (d + 1 - 1) (fun q hq => pk_un (by omega)), rv_m pk_us, Nat.add_sub_cancel, mz_1 hd, mz_cg (f := f) (d - 1) (fun q hq => pk_un (by omega)), rv_n hv pk_us]
  rw [mz_1 hd, hr] at h
  have e8 : 8 ^ (6 - d) = 8 * 8 ^ (6 - (d + 1)) := by rw [show 6 - d = (6 - (d + 1)) + 1 by omega, Nat.pow_succ, Nat.mul_comm]
  have h8 : 1 ≤ 8 ^ (6 - (d + 1)) := Nat.pow_pos (by omega)
  have : (6 - v) * 8 ^ (6 - d) + 8 ^ (6 - d) ≤ (7 - k) * 8 ^ (6 - d) := by
    rw [← Nat.succ_mul]; exact Nat.mul_le_mul_right _ (by omega)
  omega
