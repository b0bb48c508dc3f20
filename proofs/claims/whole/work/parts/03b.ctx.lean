/-! what holds while a method of the table runs -/
def jm_tysF (dA : Nat → ClassId) : Nat → List FieldType → List (ClassId × FieldType)
  | _, [] => []
  | k, t :: r => (dA k, t) :: jm_tysF dA (k + 1) r
theorem jm_tysF_get (dA : Nat → ClassId) : ∀ (l : List FieldType) (k i : Nat), (jm_tysF dA k l)[i]? = (l[i]?).map (fun t => (dA (k + i), t)) := by
  intro l
  induction l with
  | nil => intro k i; simp [jm_tysF]
  | cons c r ih =>
    intro k i
    cases i with
    | zero => simp [jm_tysF]
    | succ i =>
      simp only [jm_tysF, List.getElem?_cons_succ]
      rw [ih (k + 1) i]
      rw [show k + 1 + i = k + (i + 1) by omega]
abbrev jm_tys (dA : Nat → ClassId) : List (ClassId × FieldType) := jm_tysF dA 0 jm_at
theorem jm_tys_at {dA : Nat → ClassId} {t : Nat} {ty : FieldType} (h : jm_at[t]? = some ty) : (jm_tys dA)[t]? = some (dA t, ty) := by
  rw [jm_tysF_get, h, Nat.zero_add]; rfl
def jm_ws (y : Nat) : List Cond := Cond.code (jm_nm y) (jm_by y) (jm_mx y) (jm_rt y) :: jm_gw
def jm_Cx (y : Nat) (p : Program) (s : State) (m : MethodId) (args : Array Value) (meth : Method) (c : Code) (D : va_G) (dA : Nat → ClassId) (s0 b : Nat) (X : jm_X) : Prop :=
  p.tables.exec = Jvm.exec ∧ c.code = jm_by y ∧ meth.sig.returnType = jm_rt y ∧ c.maxLocals = jm_mx y ∧ s.vm.findClass (jm_nm y).cls = some m.cls ∧ meth.locks = false ∧ ((jm_nm y).name = "<init>" → meth.name = "<init>") ∧ (∀ w ∈ jm_gw, w.before args s = true) ∧ va_K D vwCl (jm_tys dA) s ∧ (∀ w ∈ jm_nw, va_Nw w s) ∧ (∀ C ∈ jm_ao, va_AO C s) ∧ va_X b X.1 X.2 s s.heap ∧ b < s0 ∧ s0 ≤ s.heap.size
def jm_Pre (D : va_G) (dA : Nat → ClassId) (s0 b : Nat) (X : jm_X) (as : List jm_V) (σ : jm_S) : Array Value → State → Prop := va_Pc (as.map (jm_cv s0 b)) (fun U => va_P D vwCl (jm_wl s0 b dA σ.1) U.heap ∧ U.heap.size = s0 + σ.1.length ∧ va_K D vwCl (jm_tys dA) U ∧ (∀ w ∈ jm_nw, va_Nw w U) ∧ (∀ C ∈ jm_ao, va_AO C U) ∧ va_X b X.1 X.2 U U.heap ∧ b < s0)
def jm_Post (D : va_G) (dA : Nat → ClassId) (s0 b : Nat) (r : Option jm_V) (σ1 : jm_S) : Array Value → State → Outcome → State → Prop := fun _ st oc t => oc = .returned (r.map (jm_cv s0 b)) ∧ va_P D vwCl (jm_wl s0 b dA σ1.1) t.heap ∧ va_F (fun q => s0 ≤ q) st t
/-- an instruction of the small machine that goes on, grows only -/
def jm_OkM (f : jm_I) : Prop := ∀ (X : jm_X) (pc : Nat) (L : jm_L) (S : List jm_V) (σ : jm_S) (pc' : Nat) (L' : jm_L) (S' : List jm_V) (σ' : jm_S), f X pc L S σ = some (.inl (pc', L', S', σ')) → σ.1.length ≤ σ'.1.length ∧ σ.2 ≤ σ'.2
/-- and the real one does the same -/
def jm_OkS (y pc : Nat) (f : jm_I) : Prop := ∀ (p : Program) (l : Launch) (e : Env) (R : Room) (s : State) (m : MethodId) (args : Array Value) (below : List Frame) (meth : Method) (c : Code) (H : Heap) (locs : List Loc) (cells slots : Nat) (Q : State → Prop) (D : va_G) (dA : Nat → ClassId) (s0 b : Nat) (X : jm_X) (L : jm_L) (S : List jm_V) (σ : jm_S) (pc' : Nat) (L' : jm_L) (S' : List jm_V) (σ' : jm_S) (ls : Array Slot),
  jm_Cx y p s m args meth c D dA s0 b X → f X pc L S σ = some (.inl (pc', L', S', σ')) → 1 ≤ R.frames → 40 ≤ R.locals → cells + (σ'.1.length - σ.1.length) ≤ R.cells → slots + (σ'.2 - σ.2) ≤ R.slots → s.heap.size + cells = s0 + σ.1.length → va_P D vwCl (jm_wl s0 b dA σ.1) H → va_S (fun q => s0 ≤ q) s.heap H locs → jm_RL s0 b (jm_mx y) ls L →
  (∀ (H' : Heap) (locs' : List Loc) (ls' : Array Slot), va_P D vwCl (jm_wl s0 b dA σ'.1) H' → va_S (fun q => s0 ≤ q) s.heap H' locs' → jm_RL s0 b (jm_mx y) ls' L' → W p l e R s m args below meth c H' locs' (cells + (σ'.1.length - σ.1.length)) (slots + (σ'.2 - σ.2)) Q (F0 m pc' ls' (S'.map (jm_cv s0 b)))) →
  W p l e R s m args below meth c H locs cells slots Q (F0 m pc ls (S.map (jm_cv s0 b)))
def jm_OkC (y pc : Nat) (f : jm_I) : Prop := ∀ (p : Program) (l : Launch) (e : Env) (R : Room) (s : State) (m : MethodId) (args : Array Value) (below : List Frame) (meth : Method) (c : Code) (H : Heap) (locs : List Loc) (cells slots : Nat) (Q : State → Prop) (D : va_G) (dA : Nat → ClassId) (s0 b : Nat) (X : jm_X) (L : jm_L) (S : List jm_V) (σ : jm_S) (y' : Nat) (as S' : List jm_V) (ls : Array Slot) (rm : Room) (mc ms : Nat) (r : Option jm_V) (σ1 : jm_S),
  jm_Cx y p s m args meth c D dA s0 b X → f X pc L S σ = some (.inr (.inr (y', as, S'))) → as.length ≤ jm_mx y' ∧ jm_lv y' < jm_lv y ∧
  (Met l (jm_nm y') (jm_ws y') rm (jm_Pre D dA s0 b X as σ) (jm_Post D dA s0 b r σ1) mc ms (fun q => s0 ≤ q) → rm.cells = mc → rm.slots = ms → rm.frames + 1 ≤ R.frames → 8 + (jm_mx y' + 11) + rm.locals ≤ R.locals → cells + mc ≤ R.cells → slots + ms ≤ R.slots → s.heap.size + cells = s0 + σ.1.length → va_P D vwCl (jm_wl s0 b dA σ.1) H → va_S (fun q => s0 ≤ q) s.heap H locs → jm_RL s0 b (jm_mx y) ls L →
  (∀ (H' : Heap) (locs' : List Loc), va_P D vwCl (jm_wl s0 b dA σ1.1) H' → va_S (fun q => s0 ≤ q) s.heap H' locs' → W p l e R s m args below meth c H' locs' (cells + mc) (slots + ms) Q (F0 m (pc + 3) ls ((r.toList ++ S').map (jm_cv s0 b)))) →
  W p l e R s m args below meth c H locs cells slots Q (F0 m pc ls (S.map (jm_cv s0 b))))
def jm_OkR (y pc : Nat) (f : jm_I) : Prop := ∀ (p : Program) (l : Launch) (e : Env) (R : Room) (s : State) (m : MethodId) (args : Array Value) (below : List Frame) (meth : Method) (c : Code) (H : Heap) (locs : List Loc) (cells slots : Nat) (D : va_G) (dA : Nat → ClassId) (s0 b : Nat) (X : jm_X) (L : jm_L) (S : List jm_V) (σ : jm_S) (r : Option jm_V) (ls : Array Slot) (free : Addr → Prop) (Qc : Array Value → State → Outcome → State → Prop),
  jm_Cx y p s m args meth c D dA s0 b X → f X pc L S σ = some (.inr (.inl r)) → (∀ t : State, t.heap = H → s.WarmedH t.vm → Qc args s (.returned (r.map (jm_cv s0 b))) t) → (∀ q ∈ locs, free q.base) →
  W p l e R s m args below meth c H locs cells slots (MQ below Qc args s cells slots free) (F0 m pc ls (S.map (jm_cv s0 b)))
/-- a return out of a method that answers a boolean -/
def jm_OkD (y pc : Nat) (f : jm_I) : Prop := ∀ (X : jm_X) (L : jm_L) (S : List jm_V) (σ : jm_S) (r : Option jm_V), f X pc L S σ = some (.inr (.inl r)) → jm_rt y = some .boolean → decode (jm_by y) pc = .ok (.ireturn, 1) ∧ ∃ v, S = [.inl v] ∧ r = some (.inl v)
def jm_Ok (y pc : Nat) (f : jm_I) : Prop := jm_OkM f ∧ jm_OkS y pc f ∧ jm_OkC y pc f ∧ jm_OkR y pc f ∧ jm_OkD y pc f
theorem jm_Ok.ofS {y pc : Nat} {f : jm_I} (hm : jm_OkM f) (hs : jm_OkS y pc f) (hn : ∀ X L S σ o, f X pc L S σ ≠ some (.inr o)) : jm_Ok y pc f :=
  ⟨hm, hs, fun p l e R s m args below meth c H locs cells slots Q D dA s0 b X L S σ y' as S' ls rm mc ms r σ1 _ h => absurd h (hn X L S σ _), fun p l e R s m args below meth c H locs cells slots D dA s0 b X L S σ r ls free Qc _ h => absurd h (hn X L S σ _), fun X L S σ r h => absurd h (hn X L S σ _)⟩
theorem jm_Ok.ofC {y pc : Nat} {f : jm_I} (hc : jm_OkC y pc f) (hn : ∀ X L S σ o, f X pc L S σ ≠ some (.inl o)) (hn2 : ∀ X L S σ o, f X pc L S σ ≠ some (.inr (.inl o))) (hm : jm_OkM f) : jm_Ok y pc f :=
  ⟨hm, fun p l e R s m args below meth c H locs cells slots Q D dA s0 b X L S σ pc' L' S' σ' ls _ h => absurd h (hn X L S σ _), hc, fun p l e R s m args below meth c H locs cells slots D dA s0 b X L S σ r ls free Qc _ h => absurd h (hn2 X L S σ _), fun X L S σ r h => absurd h (hn2 X L S σ _)⟩
theorem jm_Ok.ofR {y pc : Nat} {f : jm_I} (hr : jm_OkR y pc f) (hn : ∀ X L S σ o, f X pc L S σ ≠ some (.inl o)) (hn2 : ∀ X L S σ o, f X pc L S σ ≠ some (.inr (.inr o))) (hm : jm_OkM f) (hD : jm_OkD y pc f) : jm_Ok y pc f :=
  ⟨hm, fun p l e R s m args below meth c H locs cells slots Q D dA s0 b X L S σ pc' L' S' σ' ls _ h => absurd h (hn X L S σ _), fun p l e R s m args below meth c H locs cells slots Q D dA s0 b X L S σ y' as S' ls rm mc ms r σ1 _ h => absurd h (hn2 X L S σ _), hr, hD⟩
/-- the heap's size, out of the machine's own count -/
theorem jm_sz {p : Program} {l : Launch} {e : Env} {R : Room} {s : State} {m : MethodId} {args : Array Value} {below : List Frame} {meth : Method} {c : Code} {H : Heap} {locs : List Loc} {cells slots : Nat} {Q : State → Prop} {g : JFrame} (k : H.size ≤ s.heap.size + cells → W p l e R s m args below meth c H locs cells slots Q g) : W p l e R s m args below meth c H locs cells slots Q g := by
  intro T hT X
  have h := X.same.2.2.1
  have h2 : (T.setVm s.vm).heap.size = H.size := by rw [← hT]; rfl
  rw [h2] at h
  exact k h T hT X
theorem jm_len {D : va_G} {dA : Nat → ClassId} {s0 b : Nat} {h : jm_H} {H H0 : Heap} {locs : List Loc} (hP : va_P D vwCl (jm_wl s0 b dA h) H) (hS : va_S (fun q => s0 ≤ q) H0 H locs) (h0 : s0 ≤ H0.size) : s0 + h.length ≤ H.size := by
  cases hl : h.length with
  | zero => have := hS.1; omega
  | succ n =>
    have hn : n < h.length := by omega
    have hg : h[n]? = some h[n] := List.getElem?_eq_getElem hn
    have := (hP n _ (jm_wl_at hg)).lt
    have : s0 + n < H.size := this
    omega
/-- a part that leaves the cells alone -/
theorem jm_pure {y pc : Nat} {f : jm_I} (hn : ∀ X L S σ o, f X pc L S σ ≠ some (.inr o)) (hm : ∀ (X : jm_X) (pc : Nat) (L : jm_L) (S : List jm_V) (σ : jm_S) (pc' : Nat) (L' : jm_L) (S' : List jm_V) (σ' : jm_S), f X pc L S σ = some (.inl (pc', L', S', σ')) → σ' = σ)
    (h : ∀ (p : Program) (l : Launch) (e : Env) (R : Room) (s : State) (m : MethodId) (args : Array Value) (below : List Frame) (meth : Method) (c : Code) (H : Heap) (locs : List Loc) (cells slots : Nat) (Q : State → Prop) (D : va_G) (dA : Nat → ClassId) (s0 b : Nat) (X : jm_X) (L : jm_L) (S : List jm_V) (σ : jm_S) (pc' : Nat) (L' : jm_L) (S' : List jm_V) (ls : Array Slot),
      jm_Cx y p s m args meth c D dA s0 b X → f X pc L S σ = some (.inl (pc', L', S', σ)) → 1 ≤ R.frames → 40 ≤ R.locals → cells ≤ R.cells → slots ≤ R.slots → va_P D vwCl (jm_wl s0 b dA σ.1) H → va_S (fun q => s0 ≤ q) s.heap H locs → jm_RL s0 b (jm_mx y) ls L →
      (∀ (ls' : Array Slot), jm_RL s0 b (jm_mx y) ls' L' → W p l e R s m args below meth c H locs cells slots Q (F0 m pc' ls' (S'.map (jm_cv s0 b)))) →
      W p l e R s m args below meth c H locs cells slots Q (F0 m pc ls (S.map (jm_cv s0 b)))) : jm_Ok y pc f := by
  refine jm_Ok.ofS (fun X pc L S σ pc' L' S' σ' hf => ?_) ?_ hn
  · rw [hm _ _ _ _ _ _ _ _ _ hf]
    exact ⟨Nat.le_refl _, Nat.le_refl _⟩
  · intro p l e R s m args below meth c H locs cells slots Q D dA s0 b X L S σ pc' L' S' σ' ls C hf h1 h2 h3 h4 h5 hP hS hL kk
    have e1 := hm _ _ _ _ _ _ _ _ _ hf
    subst e1
    simp only [Nat.sub_self, Nat.add_zero] at h3 h4 kk
    exact h p l e R s m args below meth c H locs cells slots Q D dA s0 b X L S σ' pc' L' S' ls C hf h1 h2 h3 h4 hP hS hL (fun ls' hl' => kk H locs ls' hP hS hl')
theorem jm_in_of {i : Int32} {n : Nat} (h : jm_in i n = true) : vp_in i n := by
  unfold jm_in at h
  have h2 := of_decide_eq_true h
  exact h2
