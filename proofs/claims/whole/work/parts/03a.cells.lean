/-! the small machine's cells and locals in the real one -/
def jm_cv (s0 b : Nat) (v : jm_V) : Value := match v with
  | .inl x => .int x
  | .inr (.inl none) => .null
  | .inr (.inl (some i)) => .ref (s0 + i)
  | .inr (.inr _) => .ref b
def jm_cc (s0 b : Nat) (dA : Nat → ClassId) (c : jm_C) : va_E := match c with
  | .inl o => .inr (o.1, o.2.map (jm_cv s0 b))
  | .inr (.inl a) => .inl (dA a.1, a.2.1, .inl a.2.2)
  | .inr (.inr a) => .inl (dA a.1, a.2.length, .inr (.inr (.inr (.inr (fun i => ((a.2[i]?).join).map (fun q => s0 + q))))))
theorem jm_cat (s0 b : Nat) (v : jm_V) : (jm_cv s0 b v).category = 1 := by
  rcases v with x | (_ | a) | u <;> rfl
def jm_wlF (s0 b : Nat) (dA : Nat → ClassId) : Nat → jm_H → va_W
  | _, [] => []
  | k, c :: r => (s0 + k, jm_cc s0 b dA c) :: jm_wlF s0 b dA (k + 1) r
abbrev jm_wl (s0 b : Nat) (dA : Nat → ClassId) (h : jm_H) : va_W := jm_wlF s0 b dA 0 h
theorem jm_wlF_get (s0 b : Nat) (dA : Nat → ClassId) : ∀ (h : jm_H) (k i : Nat), (jm_wlF s0 b dA k h)[i]? = (h[i]?).map (fun c => (s0 + (k + i), jm_cc s0 b dA c)) := by
  intro h
  induction h with
  | nil => intro k i; simp [jm_wlF]
  | cons c r ih =>
    intro k i
    cases i with
    | zero => simp [jm_wlF]
    | succ i =>
      simp only [jm_wlF, List.getElem?_cons_succ]
      rw [ih (k + 1) i]
      rw [show k + 1 + i = k + (i + 1) by omega]
theorem jm_wl_get (s0 b : Nat) (dA : Nat → ClassId) (h : jm_H) (i : Nat) : (jm_wl s0 b dA h)[i]? = (h[i]?).map (fun c => (s0 + i, jm_cc s0 b dA c)) := by
  rw [jm_wlF_get, Nat.zero_add]
theorem jm_wl_at {s0 b : Nat} {dA : Nat → ClassId} {h : jm_H} {i : Nat} {c : jm_C} (hi : h[i]? = some c) : (jm_wl s0 b dA h)[i]? = some (s0 + i, jm_cc s0 b dA c) := by
  rw [jm_wl_get, hi]; rfl
theorem jm_wlF_set (s0 b : Nat) (dA : Nat → ClassId) : ∀ (h : jm_H) (k i : Nat) (c : jm_C), (jm_wlF s0 b dA k h).set i (s0 + (k + i), jm_cc s0 b dA c) = jm_wlF s0 b dA k (h.set i c) := by
  intro h
  induction h with
  | nil => intro k i c; simp [jm_wlF]
  | cons c0 r ih =>
    intro k i c
    cases i with
    | zero => simp [jm_wlF]
    | succ i =>
      simp only [jm_wlF, List.set_cons_succ]
      rw [← ih (k + 1) i c]
      rw [show k + 1 + i = k + (i + 1) by omega]
theorem jm_wl_set {s0 b : Nat} {dA : Nat → ClassId} {h : jm_H} {i : Nat} {e : va_E} (c : jm_C) (he : jm_cc s0 b dA c = e) : (jm_wl s0 b dA h).set i (s0 + i, e) = jm_wl s0 b dA (h.set i c) := by
  have q := jm_wlF_set s0 b dA h 0 i c
  rw [Nat.zero_add, he] at q
  exact q
theorem jm_wlF_app (s0 b : Nat) (dA : Nat → ClassId) : ∀ (h : jm_H) (k : Nat) (c : jm_C), jm_wlF s0 b dA k (h ++ [c]) = jm_wlF s0 b dA k h ++ [(s0 + (k + h.length), jm_cc s0 b dA c)] := by
  intro h
  induction h with
  | nil => intro k c; simp [jm_wlF]
  | cons c0 r ih =>
    intro k c
    simp only [jm_wlF, List.cons_append, List.length_cons]
    rw [ih (k + 1) c]
    rw [show k + 1 + r.length = k + (r.length + 1) by omega]
theorem jm_wl_app {s0 b : Nat} {dA : Nat → ClassId} {h : jm_H} {e : va_E} {q : Nat} (c : jm_C) (he : jm_cc s0 b dA c = e) (hq : q = s0 + h.length) : jm_wl s0 b dA h ++ [(q, e)] = jm_wl s0 b dA (h ++ [c]) := by
  have z := jm_wlF_app s0 b dA h 0 c
  rw [Nat.zero_add, he, ← hq] at z
  exact z.symm
theorem jm_wl_D (s0 b : Nat) (dA : Nat → ClassId) (h : jm_H) : va_D (fun q => s0 ≤ q) (jm_wl s0 b dA h) := by
  refine ⟨fun i j p q hi hj hpq => ?_, fun k q hk => ?_⟩
  · rw [jm_wl_get] at hi hj
    obtain ⟨c1, -, e1⟩ := Option.map_eq_some_iff.mp hi
    obtain ⟨c2, -, e2⟩ := Option.map_eq_some_iff.mp hj
    rw [← e1, ← e2] at hpq
    have : s0 + i = s0 + j := hpq
    omega
  · rw [jm_wl_get] at hk
    obtain ⟨c1, -, e1⟩ := Option.map_eq_some_iff.mp hk
    rw [← e1]
    exact Nat.le_add_right s0 k
/-! locals -/
def jm_lo (s0 b : Nat) : Nat → jm_L → List (Nat × Value)
  | _, [] => []
  | k, none :: r => jm_lo s0 b (k + 1) r
  | k, some v :: r => (k, jm_cv s0 b v) :: jm_lo s0 b (k + 1) r
theorem jm_lo_mem (s0 b : Nat) : ∀ (L : jm_L) (k : Nat) (q : Nat × Value), q ∈ jm_lo s0 b k L ↔ ∃ (j : Nat) (v : jm_V), L[j]? = some (some v) ∧ q = (k + j, jm_cv s0 b v) := by
  intro L
  induction L with
  | nil => intro k q; simp [jm_lo]
  | cons o r ih =>
    intro k q
    have tail : (q ∈ jm_lo s0 b (k + 1) r) ↔ ∃ (j : Nat) (v : jm_V), (o :: r)[j + 1]? = some (some v) ∧ q = (k + (j + 1), jm_cv s0 b v) := by
      rw [ih (k + 1) q]
      constructor
      · rintro ⟨j, v, h1, h2⟩
        exact ⟨j, v, by simpa using h1, by rw [h2]; congr 1; omega⟩
      · rintro ⟨j, v, h1, h2⟩
        exact ⟨j, v, by simpa using h1, by rw [h2]; congr 1; omega⟩
    cases o with
    | none =>
      show q ∈ jm_lo s0 b (k + 1) r ↔ _
      rw [tail]
      constructor
      · rintro ⟨j, v, h1, h2⟩
        exact ⟨j + 1, v, h1, h2⟩
      · rintro ⟨j, v, h1, h2⟩
        cases j with
        | zero => simp at h1
        | succ j => exact ⟨j, v, h1, h2⟩
    | some w =>
      show q ∈ (k, jm_cv s0 b w) :: jm_lo s0 b (k + 1) r ↔ _
      rw [List.mem_cons, tail]
      constructor
      · rintro (h | ⟨j, v, h1, h2⟩)
        · exact ⟨0, w, by simp, by rw [h]; rfl⟩
        · exact ⟨j + 1, v, h1, h2⟩
      · rintro ⟨j, v, h1, h2⟩
        cases j with
        | zero =>
          simp at h1
          subst h1
          exact Or.inl h2
        | succ j => exact Or.inr ⟨j, v, h1, h2⟩
def jm_RL (s0 b nL : Nat) (ls : Array Slot) (L : jm_L) : Prop := L.length = nL ∧ lv_has ls nL (jm_lo s0 b 0 L)
theorem jm_RL.at {s0 b nL : Nat} {ls : Array Slot} {L : jm_L} (h : jm_RL s0 b nL ls L) {i : Nat} {v : jm_V} (hi : L[i]? = some (some v)) : ls[i]? = some (.val (jm_cv s0 b v)) :=
  h.2.2.2 (i, jm_cv s0 b v) ((jm_lo_mem s0 b L 0 _).mpr ⟨i, v, hi, by rw [Nat.zero_add]⟩)
theorem jm_RL.get {s0 b nL : Nat} {ls : Array Slot} {L : jm_L} (_ : jm_RL s0 b nL ls L) {i : Nat} {v : jm_V} (hi : L[i]? = some (some v)) : ∃ k : Nat, (jm_lo s0 b 0 L)[k]? = some (i, jm_cv s0 b v) :=
  List.getElem?_of_mem ((jm_lo_mem s0 b L 0 _).mpr ⟨i, v, hi, by rw [Nat.zero_add]⟩)
theorem jm_RL.set {s0 b nL : Nat} {ls ls' : Array Slot} {L : jm_L} {i : Nat} {v : jm_V} {w : Value} (h : jm_RL s0 b nL ls L) (hw : jm_cv s0 b v = w) (h' : lv_has ls' nL ((i, w) :: (jm_lo s0 b 0 L).filter (fun q => !(q.1 == i) && !(q.1 + 1 == i && q.2.category == 2)))) : jm_RL s0 b nL ls' (L.set i (some v)) := by
  refine ⟨by rw [List.length_set]; exact h.1, h'.1, h'.2.1, fun q hq => ?_⟩
  obtain ⟨j, u, h1, h2⟩ := (jm_lo_mem s0 b _ 0 q).mp hq
  rw [Nat.zero_add] at h2
  refine h'.2.2 q ?_
  by_cases hj : j = i
  · subst hj
    have hl : j < L.length := by
      have := (List.getElem?_eq_some_iff.mp h1).1
      rwa [List.length_set] at this
    rw [List.getElem?_set_self hl] at h1
    cases h1
    rw [h2, hw]
    exact List.mem_cons_self
  · rw [List.getElem?_set_ne (Ne.symm hj)] at h1
    refine List.mem_cons_of_mem _ (List.mem_filter.mpr ⟨(jm_lo_mem s0 b L 0 q).mpr ⟨j, u, h1, by rw [Nat.zero_add]; exact h2⟩, ?_⟩)
    rw [h2]
    have hc := jm_cat s0 b u
    simp [hj, hc]
theorem jm_args_mem (s0 b : Nat) : ∀ (as : List jm_V) (k j : Nat) (v : jm_V), as[j]? = some v → (k + j, jm_cv s0 b v) ∈ lv_args k (as.map (jm_cv s0 b)) := by
  intro as
  induction as with
  | nil => intro k j v h; simp at h
  | cons a r ih =>
    intro k j v h
    have hc := jm_cat s0 b a
    simp only [List.map_cons, lv_args]
    rw [if_neg (by omega)]
    cases j with
    | zero =>
      simp at h
      subst h
      exact List.mem_cons_self
    | succ j =>
      refine List.mem_cons_of_mem _ ?_
      rw [show k + (j + 1) = k + 1 + j by omega]
      exact ih (k + 1) j v (by simpa using h)
theorem jm_sl_len (s0 b : Nat) (as : List jm_V) : (lg_sl (as.map (jm_cv s0 b))).length = as.length := by
  induction as with
  | nil => rfl
  | cons a r ih =>
    have hc := jm_cat s0 b a
    simp only [lg_sl, List.map_cons, List.flatMap_cons] at ih ⊢
    rw [if_neg (by omega)]
    simp only [List.singleton_append, List.length_cons]
    rw [ih]
theorem jm_entry {s0 b n : Nat} (as : List jm_V) (h : as.length ≤ n) : jm_RL s0 b n ((lg_sl (as.map (jm_cv s0 b)) ++ List.replicate (n - (lg_sl (as.map (jm_cv s0 b))).length) Slot.unset).toArray) (jm_loc n as) := by
  have q := lv_entry (as.map (jm_cv s0 b)) (n := n) (by rw [jm_sl_len]; exact h)
  refine ⟨by simp [jm_loc]; omega, q.1, q.2.1, fun x hx => q.2.2 x ?_⟩
  obtain ⟨j, v, h1, h2⟩ := (jm_lo_mem s0 b _ 0 x).mp hx
  rw [Nat.zero_add] at h2
  rw [h2]
  have hj : as[j]? = some v := by
    unfold jm_loc at h1
    by_cases hl : j < as.length
    · rw [List.getElem?_append_left (by simpa using hl), List.getElem?_map] at h1
      obtain ⟨u, e1, e2⟩ := Option.map_eq_some_iff.mp h1
      cases e2
      exact e1
    · rw [List.getElem?_append_right (by simpa using Nat.le_of_not_lt hl)] at h1
      have z := List.mem_of_getElem? h1
      have := List.eq_of_mem_replicate z
      cases this
  have z := jm_args_mem s0 b as 0 j v hj
  rwa [Nat.zero_add] at z
