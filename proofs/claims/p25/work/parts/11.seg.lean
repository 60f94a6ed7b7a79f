/-! WORLDS WITH POOLS: cells and pools; what is moved, by permutations -/
abbrev wq (X : va_W) (PL : List va_W) : va_W := X ++ PL.flatten
abbrev ap (a b : va_W) : va_W := a ++ b
theorem va_P.perm {D : va_G} {cl : List vw_C} {ws ws' : va_W} {H : Heap} (h : va_P D cl ws H) (e : ws.Perm ws') : va_P D cl ws' H := by
  intro k q hk
  obtain ⟨i, hi⟩ := List.getElem?_of_mem (e.symm.subset (List.mem_of_getElem? hk))
  exact h i q hi
theorem va_D_to {A : Nat → Prop} {ws : va_W} (h : va_D A ws) : (ws.map Prod.fst).Nodup ∧ ∀ q ∈ ws, A q.1 := by
  refine ⟨?_, fun q hq => ?_⟩
  · refine List.pairwise_iff_getElem.mpr (fun i j hi hj hij e => ?_)
    rw [List.length_map] at hi hj
    rw [List.getElem_map, List.getElem_map] at e
    have := h.1 i j ws[i] ws[j] (List.getElem?_eq_getElem hi) (List.getElem?_eq_getElem hj) e
    omega
  · obtain ⟨i, hi⟩ := List.getElem?_of_mem hq
    exact h.2 i q hi
theorem va_D_of {A : Nat → Prop} {ws : va_W} (h : (ws.map Prod.fst).Nodup) (h2 : ∀ q ∈ ws, A q.1) : va_D A ws := by
  refine ⟨fun i j p q hp hq e => ?_, fun k q hk => h2 q (List.mem_of_getElem? hk)⟩
  have h3 : (ws.map Prod.fst)[i]? = (ws.map Prod.fst)[j]? := by
    rw [List.getElem?_map, List.getElem?_map, hp, hq, Option.map_some, Option.map_some, e]
  exact (List.getElem?_inj (by rw [List.length_map]; exact (List.getElem?_eq_some_iff.mp hp).1) h).mp h3
theorem va_D.perm {A : Nat → Prop} {ws ws' : va_W} (h : va_D A ws) (e : ws.Perm ws') : va_D A ws' := by
  obtain ⟨h1, h2⟩ := va_D_to h
  exact va_D_of ((e.map Prod.fst).nodup_iff.mp h1) (fun q hq => h2 q (e.symm.subset hq))
theorem va_P.left {D : va_G} {cl : List vw_C} {w1 w2 : va_W} {H : Heap} (h : va_P D cl (w1 ++ w2) H) : va_P D cl w1 H := by
  intro k q hk
  exact h k q (by rw [List.getElem?_append_left (List.getElem?_eq_some_iff.mp hk).1]; exact hk)
theorem va_P.right {D : va_G} {cl : List vw_C} {w1 w2 : va_W} {H : Heap} (h : va_P D cl (w1 ++ w2) H) : va_P D cl w2 H := va_P.left (h.perm List.perm_append_comm)
theorem va_D.left {A : Nat → Prop} {w1 w2 : va_W} (h : va_D A (w1 ++ w2)) : va_D A w1 := by
  obtain ⟨h1, h2⟩ := va_D_to h
  rw [List.map_append] at h1
  exact va_D_of (List.nodup_append.mp h1).1 (fun q hq => h2 q (List.mem_append_left _ hq))
theorem va_D.right {A : Nat → Prop} {w1 w2 : va_W} (h : va_D A (w1 ++ w2)) : va_D A w2 := va_D.left (h.perm List.perm_append_comm)
theorem va_D.apart {A : Nat → Prop} {w1 w2 : va_W} (h : va_D A (w1 ++ w2)) {p q : Nat × va_E} (hp : p ∈ w1) (hq : q ∈ w2) : p.1 ≠ q.1 := by
  obtain ⟨h1, -⟩ := va_D_to h
  rw [List.map_append] at h1
  exact (List.nodup_append.mp h1).2.2 _ (List.mem_map_of_mem hp) _ (List.mem_map_of_mem hq)
theorem fm_range {α : Type} (S : List α) : (List.range S.length).filterMap (fun i => S[i]?) = S := by
  induction S with
  | nil => rfl
  | cons a S ih =>
    rw [List.length_cons, List.range_succ_eq_map, List.filterMap_cons_some (f := fun i => (a :: S)[i]?) (b := a) rfl, List.filterMap_map]
    exact congrArg (a :: ·) ih
theorem fl_single (X : va_W) : (X.map (fun c => [c])).flatten = X := by
  induction X with
  | nil => rfl
  | cons a X ih => rw [List.map_cons, List.flatten_cons, ih]; rfl
/-- a world parted by the numbers of its cells and pools -/
theorem sg_all {S : List va_W} {wn : va_W} (is : List Nat) (h3 : wn = (is.filterMap (fun i => S[i]?)).flatten) (hn : is.isPerm (List.range S.length) = true) : S.flatten.Perm wn := by
  subst h3
  have e := List.isPerm_iff.mp hn
  have e2 := (e.filterMap (fun i => S[i]?)).flatten
  rw [fm_range] at e2
  exact e2.symm
theorem sg_w {X : va_W} {PL : List va_W} {wn : va_W} (N : Nat) (is : List Nat) (h3 : wn = (is.filterMap (fun i => (X.map (fun c => [c]) ++ PL)[i]?)).flatten) (hl : X.length + PL.length = N) (hn : is.isPerm (List.range N) = true) : (wq X PL).Perm wn := by
  have hn : is.isPerm (List.range (X.map (fun c => [c]) ++ PL).length) = true := by rw [List.length_append, List.length_map, hl]; exact hn
  have e := sg_all is h3 hn
  rw [List.flatten_append, fl_single] at e
  exact e
theorem sg {X : va_W} {PL : List va_W} {wc wr : va_W} (N : Nat) (isC isR : List Nat) (h3 : wc = (isC.filterMap (fun i => (X.map (fun c => [c]) ++ PL)[i]?)).flatten) (h4 : wr = (isR.filterMap (fun i => (X.map (fun c => [c]) ++ PL)[i]?)).flatten) (hl : X.length + PL.length = N) (hn : (isC ++ isR).isPerm (List.range N) = true) : (wq X PL).Perm (ap wc wr) := by
  refine sg_w N (isC ++ isR) ?_ hl hn
  rw [List.filterMap_append, List.flatten_append, ← h3, ← h4]
theorem sg1 {X1 X2 : va_W} {P1 : List va_W} : (ap (wq X1 P1) X2).Perm (wq (ap X1 X2) P1) := by
  show ((X1 ++ P1.flatten) ++ X2).Perm ((X1 ++ X2) ++ P1.flatten)
  rw [List.append_assoc, List.append_assoc]
  exact List.Perm.append_left _ List.perm_append_comm
theorem sg0 {X1 X2 : va_W} {P2 : List va_W} : (ap X1 (wq X2 P2)).Perm (wq (ap X1 X2) P2) := by
  show (X1 ++ (X2 ++ P2.flatten)).Perm ((X1 ++ X2) ++ P2.flatten)
  rw [List.append_assoc]
theorem sg0p {X1 X2 : va_W} {P2 : List va_W} (N : Nat) (is : List Nat) (hl : P2.length = N) (hn : is.isPerm (List.range N) = true) : (ap X1 (wq X2 P2)).Perm (wq (ap X1 X2) (is.filterMap (fun i => P2[i]?))) := by
  subst hl
  refine sg0.trans ?_
  exact List.Perm.append_left _ (sg_all is rfl hn)
theorem sg2 {X1 X2 : va_W} {P1 P2 : List va_W} (N : Nat) (is : List Nat) (hl : P1.length + P2.length = N) (hn : is.isPerm (List.range N) = true) : (ap (wq X1 P1) (wq X2 P2)).Perm (wq (ap X1 X2) (is.filterMap (fun i => (P1 ++ P2)[i]?))) := by
  show ((X1 ++ P1.flatten) ++ (X2 ++ P2.flatten)).Perm ((X1 ++ X2) ++ (is.filterMap (fun i => (P1 ++ P2)[i]?)).flatten)
  have e := sg_all (S := P1 ++ P2) is rfl (by rw [List.length_append, hl]; exact hn)
  rw [List.flatten_append] at e
  refine List.Perm.trans ?_ (List.Perm.append_left _ e)
  rw [List.append_assoc, List.append_assoc]
  refine List.Perm.append_left _ ?_
  rw [← List.append_assoc, ← List.append_assoc]
  exact List.Perm.append_right _ List.perm_append_comm
theorem PC.preSp {s : State} {H : Heap} {D : va_G} {ca : Nat → ClassId} {ws wc wr : va_W} {A : Nat → Prop} {As : List Value} (hC : Cx D ca s) (hP : va_P D vwCl ws H) (hD : va_D A ws) (hp : ws.Perm (ap wc wr)) : PreS s H (PC As H.size D ca wc) As := by
  exact ⟨PC.blind, fun U hU hW => ⟨rfl, by rw [hU], by rw [hU]; exact (hP.perm hp).left, Cx.warm hW hC, ((hD.perm hp).left).weaken (fun _ _ _ _ => trivial)⟩⟩
theorem PC.preVp {s : State} {H : Heap} {D : va_G} {ca : Nat → ClassId} {ws wc wr : va_W} {A : Nat → Prop} {As : List Value} {b ci : Nat} {q : vw_C} {fs : List Value} (hC : Cx D ca s) (hP : va_P D vwCl ws H) (hD : va_D A ws) (hp : ws.Perm (ap wc wr)) (hc : vwCl[ci]? = some q) (he : wc[0]? = some (b, .inr (ci, fs))) : PreV s H q.1 b (PC (.ref b :: As) H.size D ca wc) As :=
  ⟨PC.blind, va_recv hC.1 (hP.perm hp).left hc he, (PC.preSp (As := .ref b :: As) hC hP hD hp).2⟩
theorem va_freeW {A0 : Nat → Prop} {ws wc wr : va_W} {H0 H : Heap} {locs : List Loc} (hD : va_D A0 ws) (hS : va_S A0 H0 H locs) (hA : ∀ q, H0.size ≤ q → A0 q) (hp : ws.Perm (ap wc wr)) : ∀ q, va_A wc H.size q → A0 q := by
  intro q h
  rcases h with ⟨k, e, h⟩ | h
  · exact (hD.perm hp).left.2 k (q, e) h
  · exact hA q (Nat.le_trans hS.1 h)
theorem va_joinW {A0 : Nat → Prop} {D : va_G} {cl : List vw_C} {ws wc wr w1 : va_W} {H H1 : Heap} (hP : va_P D cl ws H) (hD : va_D A0 ws) (hp : ws.Perm (ap wc wr)) (hk : ∀ q : Nat, q < H.size → ¬ va_A wc H.size q → H1[q]? = H[q]?) (hF : ∀ q, va_A wc H.size q → A0 q) (hP1 : va_P D cl w1 H1) (hD1 : va_D (va_A wc H.size) w1) : va_P D cl (ap wr w1) H1 ∧ va_D A0 (ap wr w1) := by
  have gP := hP.perm hp
  have gD := hD.perm hp
  have apart : ∀ (k : Nat) (q : Nat × va_E), wr[k]? = some q → q.1 < H.size ∧ ¬ va_A wc H.size q.1 := by
    intro k q hq
    have hl := (gP.right k q hq).lt
    refine ⟨hl, fun h => ?_⟩
    rcases h with ⟨k2, e, h⟩ | h
    · exact gD.apart (List.mem_of_getElem? h) (List.mem_of_getElem? hq) rfl
    · omega
  refine ⟨va_P.app (fun k q hq => ?_) hP1, va_D.app gD.right (hD1.weaken (fun k q _ h => hF q.1 h)) (fun i j x y hx hy hxy => ?_)⟩
  · obtain ⟨g1, g2⟩ := apart k q hq
    exact (gP.right k q hq).kept (hk q.1 g1 g2)
  · exact (apart i x hx).2 (by rw [hxy]; exact hD1.2 j y hy)
section KP
variable {p : Program} {l : Launch} {e : Env} {R : Room} {s : State} {m : MethodId} {args : Array Value} {below : List Frame} {meth : Method} {c : Code} {H : Heap} {locs : List Loc} {cells slots : Nat} {Q : State → Prop}
variable {pc : Nat} {ls : Array Slot} {rest st0 : List Value} {a : Array Value} {A0 : Nat → Prop} {H0 : Heap} {mc ms : Nat} {D : va_G} {ws wc wr : va_W} {S : Type} {w1 wn : S → va_W}
theorem kp_i {post : Int32 → S → Prop} (hr : va_Run p l e R s m args below meth c H locs cells slots mc ms (F0 m pc ls st0) rest (QI post w1 wc H.size D a) (va_A wc H.size)) (hP : va_P D vwCl ws H) (hD : va_D A0 ws) (hS : va_S A0 H0 H locs) (hA : ∀ q, H0.size ≤ q → A0 q) (hp : ws.Perm (ap wc wr)) (hw : ∀ u, (ap wr (w1 u)).Perm (wn u))
    (kk : ∀ (r : Int32) (u : S) (H1 : Heap) (locs1 : List Loc), post r u → va_P D vwCl (wn u) H1 → va_D A0 (wn u) → va_S A0 H0 H1 locs1 → W p l e R s m args below meth c H1 locs1 (cells + mc) (slots + ms) Q (F0 m (pc + 3) ls (.int r :: rest))) : W p l e R s m args below meth c H locs cells slots Q (F0 m pc ls st0) := by
  have hF := va_freeW (wc := wc) hD hS hA hp
  refine va_calli hr hS (fun q _ h => hF q h) hF (fun r u t H1 locs1 ht _ hq hB _ hk hS1 => ?_)
  obtain ⟨hP1, hD1⟩ := hB
  rw [ht] at hP1
  obtain ⟨g1, g2⟩ := va_joinW hP hD hp hk hF hP1 hD1
  exact kk r u H1 locs1 hq (g1.perm (hw u)) (g2.perm (hw u)) hS1
theorem kp_l {post : Int64 → S → Prop} (hr : va_Run p l e R s m args below meth c H locs cells slots mc ms (F0 m pc ls st0) rest (QL post w1 wc H.size D a) (va_A wc H.size)) (hP : va_P D vwCl ws H) (hD : va_D A0 ws) (hS : va_S A0 H0 H locs) (hA : ∀ q, H0.size ≤ q → A0 q) (hp : ws.Perm (ap wc wr)) (hw : ∀ u, (ap wr (w1 u)).Perm (wn u))
    (kk : ∀ (r : Int64) (u : S) (H1 : Heap) (locs1 : List Loc), post r u → va_P D vwCl (wn u) H1 → va_D A0 (wn u) → va_S A0 H0 H1 locs1 → W p l e R s m args below meth c H1 locs1 (cells + mc) (slots + ms) Q (F0 m (pc + 3) ls (.long r :: rest))) : W p l e R s m args below meth c H locs cells slots Q (F0 m pc ls st0) := by
  have hF := va_freeW (wc := wc) hD hS hA hp
  refine va_calll hr hS (fun q _ h => hF q h) hF (fun r u t H1 locs1 ht _ hq hB _ hk hS1 => ?_)
  obtain ⟨hP1, hD1⟩ := hB
  rw [ht] at hP1
  obtain ⟨g1, g2⟩ := va_joinW hP hD hp hk hF hP1 hD1
  exact kk r u H1 locs1 hq (g1.perm (hw u)) (g2.perm (hw u)) hS1
theorem kp_v {post : S → Prop} (hr : va_Run p l e R s m args below meth c H locs cells slots mc ms (F0 m pc ls st0) rest (QV post w1 wc H.size D a) (va_A wc H.size)) (hP : va_P D vwCl ws H) (hD : va_D A0 ws) (hS : va_S A0 H0 H locs) (hA : ∀ q, H0.size ≤ q → A0 q) (hp : ws.Perm (ap wc wr)) (hw : ∀ u, (ap wr (w1 u)).Perm (wn u))
    (kk : ∀ (u : S) (H1 : Heap) (locs1 : List Loc), post u → va_P D vwCl (wn u) H1 → va_D A0 (wn u) → va_S A0 H0 H1 locs1 → W p l e R s m args below meth c H1 locs1 (cells + mc) (slots + ms) Q (F0 m (pc + 3) ls rest)) : W p l e R s m args below meth c H locs cells slots Q (F0 m pc ls st0) := by
  have hF := va_freeW (wc := wc) hD hS hA hp
  refine va_callv hr hS (fun q _ h => hF q h) hF (fun u t H1 locs1 ht _ hq hB _ hk hS1 => ?_)
  obtain ⟨hP1, hD1⟩ := hB
  rw [ht] at hP1
  obtain ⟨g1, g2⟩ := va_joinW hP hD hp hk hF hP1 hD1
  exact kk u H1 locs1 hq (g1.perm (hw u)) (g2.perm (hw u)) hS1
end KP
/-! THE POOL OF A WHEEL: its ten Tasks (0 .. 9) and their ten rings (10 .. 19); ks: those that lie outside just now -/
def wx (w : Nat → Nat × va_E) (ks : List Nat) : va_W := ((List.range 20).filter (fun j => !ks.contains j)).map w
theorem wx_open {w : Nat → Nat × va_E} {k : Nat} {ks : List Nat} (hk : k < 20) (hn : k ∉ ks) : (wx w ks).Perm (w k :: wx w (k :: ks)) := by
  have e : ((List.range 20).filter (fun j => !ks.contains j)).Perm (k :: ((List.range 20).filter (fun j => !(k :: ks).contains j))) := by
    refine (List.perm_ext_iff_of_nodup (List.nodup_range.filter _) (List.nodup_cons.mpr ⟨?_, List.nodup_range.filter _⟩)).mpr (fun a => ?_)
    · simp
    · simp only [List.mem_cons, List.mem_filter, List.mem_range, List.contains_cons, Bool.not_or, Bool.and_eq_true, Bool.not_eq_true', List.contains_eq_mem, decide_eq_false_iff_not, beq_eq_false_iff_ne]
      by_cases h : a = k
      · subst h; simp [hk, hn]
      · simp [h]
  exact e.map w
theorem wx_put {w : Nat → Nat × va_E} {k : Nat} {ks : List Nat} {c : Nat × va_E} (hk : k < 20) (hn : k ∉ ks) : (c :: wx w (k :: ks)).Perm (wx (va_up w k c) ks) := by
  refine List.Perm.trans ?_ (wx_open (w := va_up w k c) hk hn).symm
  rw [show va_up w k c k = c from by simp [va_up]]
  refine List.Perm.cons _ (List.Perm.of_eq ?_)
  unfold wx
  refine List.map_congr_left (fun a ha => ?_)
  have h : a ≠ k := by
    intro e
    subst e
    simp at ha
  simp [va_up, h]
theorem pm_in {α : Type} {X B P Q : List α} {c : α} (h : P.Perm (c :: Q)) : (X ++ (P ++ B)).Perm ((c :: X) ++ (Q ++ B)) := by
  refine (List.Perm.append_left X (List.Perm.append_right B h)).trans ?_
  exact List.perm_middle
theorem wx_o0 {X : va_W} {B : List va_W} {w : Nat → Nat × va_E} {k : Nat} {ks : List Nat} {c : Nat × va_E} (hk : k < 20) (hn : k ∉ ks) (e : w k = c) : (wq X (wx w ks :: B)).Perm (wq (c :: X) (wx w (k :: ks) :: B)) := by
  subst e
  exact pm_in (wx_open hk hn)
theorem wx_c0 {X : va_W} {B : List va_W} {w : Nat → Nat × va_E} {k : Nat} {ks : List Nat} {c : Nat × va_E} (hk : k < 20) (hn : k ∉ ks) : (wq (c :: X) (wx w (k :: ks) :: B)).Perm (wq X (wx (va_up w k c) ks :: B)) := (pm_in (wx_put hk hn).symm).symm
theorem pm_in1 {α : Type} {X B P Q Z : List α} {c : α} (h : P.Perm (c :: Q)) : (X ++ (Z ++ (P ++ B))).Perm ((c :: X) ++ (Z ++ (Q ++ B))) := by
  have e := pm_in (X := X ++ Z) (B := B) h
  rw [List.append_assoc] at e
  exact e.trans (List.Perm.of_eq (by simp))
theorem wx_o1 {X Z : va_W} {B : List va_W} {w : Nat → Nat × va_E} {k : Nat} {ks : List Nat} {c : Nat × va_E} (hk : k < 20) (hn : k ∉ ks) (e : w k = c) : (wq X (Z :: wx w ks :: B)).Perm (wq (c :: X) (Z :: wx w (k :: ks) :: B)) := by
  subst e
  exact pm_in1 (wx_open hk hn)
theorem wx_c1 {X Z : va_W} {B : List va_W} {w : Nat → Nat × va_E} {k : Nat} {ks : List Nat} {c : Nat × va_E} (hk : k < 20) (hn : k ∉ ks) : (wq (c :: X) (Z :: wx w (k :: ks) :: B)).Perm (wq X (Z :: wx (va_up w k c) ks :: B)) := (pm_in1 (wx_put hk hn).symm).symm
def wok (ca : Nat → ClassId) (ta ra : Nat → Nat) (w : Nat → Nat × va_E) : Prop := ∀ k, k < 10 → (∃ (x0 x1 x2 x3 x4 x5 x6 x7 x8 x9 x10 x11 x12 x13 : Int32) (o : Int64) (z : Nat), z ≤ 10 ∧ w k = (ta k, .inr (8, [.int x0, .int x1, .int x2, .int x3, .int x4, .int x5, .int x6, .int x7, .int x8, .int x9, .int x10, .int x11, .int x12, .int x13, .long o, .int (nI z), .ref (ra k)]))) ∧ ∃ f : Nat → Int32, w (10 + k) = (ra k, .inl (ca 1, 10, .inl f))
theorem wok_t {ca : Nat → ClassId} {ta ra : Nat → Nat} {w : Nat → Nat × va_E} (h : wok ca ta ra w) {k : Nat} (hk : k < 10) (x0 x1 x2 x3 x4 x5 x6 x7 x8 x9 x10 x11 x12 x13 : Int32) (o : Int64) (z : Nat) (hz : z ≤ 10) : wok ca ta ra (va_up w k (ta k, .inr (8, [.int x0, .int x1, .int x2, .int x3, .int x4, .int x5, .int x6, .int x7, .int x8, .int x9, .int x10, .int x11, .int x12, .int x13, .long o, .int (nI z), .ref (ra k)]))) := by
  intro j hj
  refine ⟨?_, ?_⟩
  · by_cases e : j = k
    · subst e
      exact ⟨x0, x1, x2, x3, x4, x5, x6, x7, x8, x9, x10, x11, x12, x13, o, z, hz, by simp [va_up]⟩
    · obtain ⟨y0, y1, y2, y3, y4, y5, y6, y7, y8, y9, y10, y11, y12, y13, o', z', hz', e'⟩ := (h j hj).1
      exact ⟨y0, y1, y2, y3, y4, y5, y6, y7, y8, y9, y10, y11, y12, y13, o', z', hz', by simp [va_up, e, e']⟩
  · obtain ⟨f, hf⟩ := (h j hj).2
    exact ⟨f, by rw [← hf]; simp [va_up, show ¬ 10 + j = k by omega]⟩
theorem wok_r {ca : Nat → ClassId} {ta ra : Nat → Nat} {w : Nat → Nat × va_E} (h : wok ca ta ra w) {k : Nat} (hk : k < 10) (f : Nat → Int32) : wok ca ta ra (va_up w (10 + k) (ra k, .inl (ca 1, 10, .inl f))) := by
  intro j hj
  refine ⟨?_, ?_⟩
  · obtain ⟨y0, y1, y2, y3, y4, y5, y6, y7, y8, y9, y10, y11, y12, y13, o', z', hz', e'⟩ := (h j hj).1
    exact ⟨y0, y1, y2, y3, y4, y5, y6, y7, y8, y9, y10, y11, y12, y13, o', z', hz', by rw [← e']; simp [va_up, show ¬ j = 10 + k by omega]⟩
  · by_cases e : j = k
    · subst e
      exact ⟨f, by simp [va_up]⟩
    · obtain ⟨f', hf⟩ := (h j hj).2
      exact ⟨f', by rw [← hf]; simp [va_up, e]⟩
/-! ROWS OF CHOICES: four bits for each processor, each at most 10 -/
def nib (x : Int32) (k : Nat) : Int32 := (x >>> (nI (4 * k) &&& 31)) &&& 15
def rok (x : Int32) : Prop := ∀ k, k < 4 → ∃ v : Nat, v ≤ 10 ∧ nib x k = nI v
def rokp (p : Nat) (x : Int32) : Prop := rok x ∧ ∀ q, p ≤ q → q < 4 → nib x q = 0
theorem nib_or (x y : Int32) {k : Nat} (hk : k < 4) : nib (x ||| y) k = nib x k ||| nib y k := by
  have h : ∀ n : Nat, n < 32 → (x ||| y) >>> (Int32.ofNat n) = (x >>> (Int32.ofNat n)) ||| (y >>> (Int32.ofNat n)) := by
    intro n hn
    apply Int32.toBitVec_inj.mp
    simp only [Int32.toBitVec_or, Int32.toBitVec_shiftRight]
    ext i hi
    simp [BitVec.getElem_sshiftRight]
    split <;> simp_all
  have e : nI (4 * k) &&& 31 = Int32.ofNat (4 * k) := by
    rcases (show k = 0 ∨ k = 1 ∨ k = 2 ∨ k = 3 by omega) with rfl | rfl | rfl | rfl <;> decide +kernel
  unfold nib
  rw [e, h _ (by omega)]
  apply Int32.toBitVec_inj.mp
  simp only [Int32.toBitVec_or, Int32.toBitVec_and]
  ext i hi
  simp [Bool.and_or_distrib_right]
theorem nib_sh : ∀ p, p < 4 → ∀ b, b < 10 → ∀ q, q < 4 → nib (nI (b + 1) <<< (nI (4 * p) &&& 31)) q = if q = p then nI (b + 1) else 0 := by decide +kernel
theorem rok_or {x : Int32} {p b : Nat} (h : rokp p x) (hp : p < 4) (hb : b < 10) : rokp (p + 1) (x ||| (nI (b + 1) <<< (nI (4 * p) &&& 31))) := by
  refine ⟨fun k hk => ?_, fun q h1 h2 => ?_⟩
  · rw [nib_or _ _ hk, nib_sh p hp b hb k hk]
    by_cases e : k = p
    · rw [if_pos e, h.2 k (by omega) hk]
      exact ⟨b + 1, by omega, by simp⟩
    · rw [if_neg e]
      obtain ⟨v, hv, e2⟩ := h.1 k hk
      exact ⟨v, hv, by rw [e2]; simp⟩
  · rw [nib_or _ _ h2, nib_sh p hp b hb q h2, if_neg (by omega), h.2 q (by omega) h2]
    simp
theorem rokp_0 : rokp 0 0 := by
  refine ⟨fun k hk => ⟨0, by omega, ?_⟩, fun q _ h => ?_⟩
  · rcases (show k = 0 ∨ k = 1 ∨ k = 2 ∨ k = 3 by omega) with rfl | rfl | rfl | rfl <;> decide +kernel
  · rcases (show q = 0 ∨ q = 1 ∨ q = 2 ∨ q = 3 by omega) with rfl | rfl | rfl | rfl <;> decide +kernel
theorem rokp_s {x : Int32} {p : Nat} (h : rokp p x) : rokp (p + 1) x := ⟨h.1, fun q h1 h2 => h.2 q (by omega) h2⟩
theorem rok_pick {x y1 y2 y3 : Int32} {k : Nat} (h : rok x) (hk : k < 4) (e1 : y1 = x >>> (nI (4 * k) &&& 31)) (e2 : y2 = y1 &&& 15) (e3 : y3 = y2 - 1) : y3 = -1 ∨ ∃ j : Nat, j < 10 ∧ y3 = nI j := by
  obtain ⟨v, hv, e⟩ := h k hk
  have e4 : y2 = nI v := by rw [e2, e1]; exact e
  rw [e4] at e3
  subst e3
  have h : ∀ v, v < 11 → nI v - 1 = -1 ∨ ∃ j : Nat, j < 10 ∧ nI v - 1 = nI j := by decide +kernel
  exact h v (by omega)
theorem nz_le {x : Int32} (h : ¬ x ≤ 0) : ¬ x = 0 := fun e => h (by subst e; decide +kernel)
theorem nz_lt {x : Int32} (h : (0 : Int32) < x) : ¬ x = 0 := fun e => by subst e; revert h; decide +kernel
theorem nI_subk {a : Nat} (k : Nat) (h : k ≤ a) (ha : a < 2 ^ 31) : nI a - nI k = nI (a - k) := by
  have := nI_add (a - k) k
  rw [Nat.sub_add_cancel h] at this
  rw [← this]
  simp
def hok (f : Nat → Int32) : Prop := ∀ k, k < 6 → (f k = -1 ∨ ∃ j : Nat, j < 10 ∧ f k = nI j)
theorem hok_up {f : Nat → Int32} (h : hok f) {k : Nat} {x : Int32} (hx : x = -1 ∨ ∃ j : Nat, j < 10 ∧ x = nI j) : hok (upd f k x) := by
  intro j hj
  unfold upd
  split
  · exact hx
  · exact h j hj
theorem nI_dec {a : Nat} (h : 1 ≤ a) : nI a + Int32.ofInt (-1) = nI (a - 1) := by
  obtain ⟨b, rfl⟩ : ∃ b, a = b + 1 := ⟨a - 1, by omega⟩
  rw [← nI_1, Int32.add_assoc, show (1 : Int32) + Int32.ofInt (-1) = 0 by decide +kernel, Nat.add_sub_cancel]
  simp
theorem hok_cpy {f g : Nat → Int32} {n : Nat} (hf : hok f) (hg : hok g) : hok (va_cpy f g 0 0 n) := by
  intro k hk
  unfold va_cpy
  split
  · rw [show 0 + (k - 0) = k by omega]
    exact hf k hk
  · exact hg k hk
theorem nar_b {x : Int32} (h : x = 0 ∨ x = 1) : narrow .boolean (.int x) = .int x := by
  rcases h with rfl | rfl <;> rfl
theorem nat_rng {x : Int32} {a b : Nat} (h1 : ¬ x < nI a) (h2 : x ≤ nI b) (ha : a < 2 ^ 31) (hb : b < 2 ^ 31) : ∃ k : Nat, a ≤ k ∧ k ≤ b ∧ x = nI k := by
  have h0 : ¬ x < 0 := by
    intro h
    exact h1 (Int32.lt_of_lt_of_le h (Int32.not_lt.mp (nI_pos ha)))
  obtain ⟨k, hk, rfl⟩ := nI_of h0
  refine ⟨k, ?_, ?_, rfl⟩
  · exact Nat.le_of_not_lt (fun h => h1 ((nI_ltI (a := k) (b := a) (by omega) (by omega)).mpr h))
  · exact (nI_leI (a := k) (b := b) (by omega) (by omega)).mp h2
theorem clamp_lt (y : Int32) : y.toNatClampNeg < 2 ^ 31 := by
  have h := Int32.toInt_lt y
  show y.toInt.toNat < _
  omega
theorem lt_clamp {y : Int32} {j : Nat} (hj : j < 2 ^ 31) (h : ¬ y ≤ nI j) : j < y.toNatClampNeg := by
  have h1 := Int32.lt_iff_toInt_lt.mp (Int32.not_le.mp h)
  have h2 : (nI j).toInt = j := by
    show (Int32.ofNat j).toInt = _
    rw [Int32.toInt_ofNat_of_lt hj]
  rw [h2] at h1
  show j < y.toInt.toNat
  omega
theorem lcmp_ne {x : Int64} {y : Int32} (h : ¬ y = 0) (e : y = lg_cmp x 0) : ¬ x = 0 := by
  intro e0
  subst e0
  exact h (e.trans (by decide +kernel))
theorem lcmp_gt {x : Int64} {y : Int32} (h : ¬ y ≤ 0) (e : y = lg_cmp x 1) : ¬ x = 0 := by
  intro e0
  subst e0
  exact h (by rw [e]; decide +kernel)
theorem cpy_le {m N : Nat} (h : m ≤ N) (hN : N < 2 ^ 31) : (0 : Int32).toNatClampNeg + (nI m).toNatClampNeg ≤ N := by
  rw [nI_clamp (Nat.lt_of_le_of_lt h hN), show (0 : Int32).toNatClampNeg = 0 by decide +kernel]
  omega
def sok (f : Nat → Int32) : Prop := ∀ k, k < 20 → ∃ v : Nat, v < 100 ∧ f k = nI v
theorem sok_up {f : Nat → Int32} (h : sok f) {k : Nat} {x : Int32} (hx : ∃ v : Nat, v < 100 ∧ x = nI v) : sok (upd f k x) := by
  intro j hj
  unfold upd
  split
  · exact hx
  · exact h j hj
theorem max_nI {a b : Nat} {y : Int32} (ha : a < 2 ^ 31) (hb : b < 2 ^ 31) (h : y = if nI a < nI b then nI b else nI a) : y = nI (max a b) := by
  rw [h]
  by_cases c : a < b
  · rw [if_pos ((nI_ltI (by omega) (by omega)).mpr c), Nat.max_eq_right (by omega)]
  · rw [if_neg (fun q => c ((nI_ltI (by omega) (by omega)).mp q)), Nat.max_eq_left (by omega)]
theorem min_nI {a b : Nat} {y : Int32} (hb : b < 2 ^ 31) (hab : a ≤ b) (h : y = if nI b < nI a then nI b else nI a) : y = nI a := by
  rw [h, if_neg (fun q => by have := (nI_ltI (a := b) (b := a) (by omega) (by omega)).mp q; omega)]
def sp_lat (t b : Int32) : Int32 := if b < 0 then (-1) else if 1000 < b then (-1) else if t + b ≤ 100000 then t + b else (-1)
def sp_tim (t b : Int32) : Int32 := if b < 0 then t else if 1000 < b then t else if t + b ≤ 100000 then t + b else t
