/-! THE SMALL MACHINE: ints, null, cells by their number, the script; one instruction is a function. It is tied to the real machine in the part behind it. -/
abbrev jm_V : Type := Int32 ⊕ (Option Nat ⊕ Unit)
abbrev jm_C : Type := (Nat × List jm_V) ⊕ ((Nat × Nat × (Nat → Int32)) ⊕ (Nat × List (Option Nat)))
abbrev jm_H : Type := List jm_C
/-- the cells, and how many slots they took -/
abbrev jm_S : Type := jm_H × Nat
abbrev jm_L : Type := List (Option jm_V)
abbrev jm_X : Type := Nat × (Nat → Int32)
/-- what an instruction comes to: go on; return; call (method, arguments, what stays on the stack) -/
abbrev jm_O : Type := (Nat × jm_L × List jm_V × jm_S) ⊕ (Option jm_V ⊕ (Nat × List jm_V × List jm_V))
abbrev jm_I : Type := jm_X → Nat → jm_L → List jm_V → jm_S → Option jm_O
abbrev jm_R : Type := Option (Option jm_V × jm_S)
abbrev jm_nx (pc : Nat) (L : jm_L) (S : List jm_V) (σ : jm_S) : Option jm_O := some (.inl (pc, L, S, σ))
def jm_c (c : Jvm.ClassFile.Cond) (x y : Int32) : Bool := match c with
  | .eq => decide (x = y)
  | .ne => decide (x ≠ y)
  | .lt => decide (x < y)
  | .ge => decide (y ≤ x)
  | .gt => decide (y < x)
  | .le => decide (x ≤ y)
def jm_in (i : Int32) (n : Nat) : Bool := decide (¬ (i < 0 ∨ n ≤ i.toNatClampNeg))
def jk_const (x : Int32) (n : Nat) : jm_I := fun _ pc L S σ => jm_nx (pc + n) L (.inl x :: S) σ
def jk_null : jm_I := fun _ pc L S σ => jm_nx (pc + 1) L (.inr (.inl none) :: S) σ
def jk_iload (i n : Nat) : jm_I := fun _ pc L S σ => match L[i]? with
  | some (some (.inl x)) => jm_nx (pc + n) L (.inl x :: S) σ
  | _ => none
def jk_aload (i n : Nat) : jm_I := fun _ pc L S σ => match L[i]? with
  | some (some (.inr r)) => jm_nx (pc + n) L (.inr r :: S) σ
  | _ => none
def jk_istore (i n : Nat) : jm_I := fun _ pc L S σ => match S with
  | .inl x :: S' => if i < L.length then jm_nx (pc + n) (L.set i (some (.inl x))) S' σ else none
  | _ => none
def jk_astore (i n : Nat) : jm_I := fun _ pc L S σ => match S with
  | .inr r :: S' => if i < L.length then jm_nx (pc + n) (L.set i (some (.inr r))) S' σ else none
  | _ => none
def jk_iinc (i : Nat) (k : Int32) : jm_I := fun _ pc L S σ => match L[i]? with
  | some (some (.inl x)) => jm_nx (pc + 3) (L.set i (some (.inl (x + k)))) S σ
  | _ => none
def jk_dup : jm_I := fun _ pc L S σ => match S with
  | v :: S' => jm_nx (pc + 1) L (v :: v :: S') σ
  | _ => none
def jk_pop : jm_I := fun _ pc L S σ => match S with
  | _ :: S' => jm_nx (pc + 1) L S' σ
  | _ => none
def jk_dup_x1 : jm_I := fun _ pc L S σ => match S with
  | v :: w :: S' => jm_nx (pc + 1) L (v :: w :: v :: S') σ
  | _ => none
def jk_dup2 : jm_I := fun _ pc L S σ => match S with
  | v :: w :: S' => jm_nx (pc + 1) L (v :: w :: v :: w :: S') σ
  | _ => none
def jk_bin (g : Int32 → Int32 → Int32) : jm_I := fun _ pc L S σ => match S with
  | .inl y :: .inl x :: S' => jm_nx (pc + 1) L (.inl (g x y) :: S') σ
  | _ => none
abbrev jb_iadd : jm_I := jk_bin (fun x y => x + y)
abbrev jb_isub : jm_I := jk_bin (fun x y => x - y)
abbrev jb_imul : jm_I := jk_bin (fun x y => x * y)
abbrev jb_iand : jm_I := jk_bin (fun x y => x &&& y)
abbrev jb_ior : jm_I := jk_bin (fun x y => x ||| y)
abbrev jb_ixor : jm_I := jk_bin (fun x y => x ^^^ y)
abbrev jb_ishl : jm_I := jk_bin (fun x y => x <<< (y &&& 31))
abbrev jb_ishr : jm_I := jk_bin (fun x y => x >>> (y &&& 31))
abbrev jb_iushr : jm_I := jk_bin (fun x y => (x.toUInt32 >>> (y.toUInt32 &&& Int32.toUInt32 31)).toInt32)
def jk_div : jm_I := fun _ pc L S σ => match S with
  | .inl y :: .inl x :: S' => if y = 0 then none else jm_nx (pc + 1) L (.inl (x / y) :: S') σ
  | _ => none
def jk_rem : jm_I := fun _ pc L S σ => match S with
  | .inl y :: .inl x :: S' => if y = 0 then none else jm_nx (pc + 1) L (.inl (x - x / y * y) :: S') σ
  | _ => none
def jk_neg : jm_I := fun _ pc L S σ => match S with
  | .inl x :: S' => jm_nx (pc + 1) L (.inl (-x) :: S') σ
  | _ => none
def jk_goto (t : Nat) : jm_I := fun _ _ L S σ => jm_nx t L S σ
def jk_if (c : Jvm.ClassFile.Cond) (t : Nat) : jm_I := fun _ pc L S σ => match S with
  | .inl x :: S' => if jm_c c x 0 = true then jm_nx t L S' σ else jm_nx (pc + 3) L S' σ
  | _ => none
def jk_icmp (c : Jvm.ClassFile.Cond) (t : Nat) : jm_I := fun _ pc L S σ => match S with
  | .inl y :: .inl x :: S' => if jm_c c x y = true then jm_nx t L S' σ else jm_nx (pc + 3) L S' σ
  | _ => none
def jk_ifnull (t : Nat) : jm_I := fun _ pc L S σ => match S with
  | .inr (.inl none) :: S' => jm_nx t L S' σ
  | .inr (.inl (some _)) :: S' => jm_nx (pc + 3) L S' σ
  | _ => none
def jk_ifnonnull (t : Nat) : jm_I := fun _ pc L S σ => match S with
  | .inr (.inl none) :: S' => jm_nx (pc + 3) L S' σ
  | .inr (.inl (some _)) :: S' => jm_nx t L S' σ
  | _ => none
/-- a switch, as a row of cases -/
def jm_sw (cs : List (Int32 × Nat)) (df : Nat) (x : Int32) : Nat := match cs with
  | [] => df
  | q :: r => if x = q.1 then q.2 else jm_sw r df x
def jk_sw (cs : List (Int32 × Nat)) (df : Nat) : jm_I := fun _ _ L S σ => match S with
  | .inl x :: S' => jm_nx (jm_sw cs df x) L S' σ
  | _ => none
def jk_getf (ci k : Nat) : jm_I := fun _ pc L S σ => match S with
  | .inr (.inl (some a)) :: S' => match σ.1[a]? with
    | some (.inl (cj, fs)) => match fs[k]? with
      | some v => if cj = ci then jm_nx (pc + 3) L (v :: S') σ else none
      | none => none
    | _ => none
  | _ => none
/-- a value that a field of this kind may take: 0 an int, 1 a boolean, 2 a reference -/
def jm_fit (kd : Nat) (v : jm_V) : Bool := match kd, v with
  | 0, .inl _ => true
  | 1, .inl x => decide (x = 0 ∨ x = 1)
  | 2, .inr _ => true
  | _, _ => false
def jk_putf (ci k kd : Nat) : jm_I := fun _ pc L S σ => match S with
  | v :: .inr (.inl (some a)) :: S' => match σ.1[a]? with
    | some (.inl (cj, fs)) => if cj = ci ∧ k < fs.length ∧ jm_fit kd v = true then jm_nx (pc + 3) L S' (σ.1.set a (.inl (cj, fs.set k v)), σ.2) else none
    | _ => none
  | _ => none
/-- load out of an array of ints (t = 0) or booleans (t = 1) -/
def jk_ald (t : Nat) : jm_I := fun _ pc L S σ => match S with
  | .inl i :: .inr (.inl (some a)) :: S' => match σ.1[a]? with
    | some (.inr (.inl (t', n, f))) => if t' = t ∧ jm_in i n = true then jm_nx (pc + 1) L (.inl (f i.toNatClampNeg) :: S') σ else none
    | _ => none
  | _ => none
def jk_iast : jm_I := fun _ pc L S σ => match S with
  | .inl x :: .inl i :: .inr (.inl (some a)) :: S' => match σ.1[a]? with
    | some (.inr (.inl (t', n, f))) => if t' = 0 ∧ jm_in i n = true then jm_nx (pc + 1) L S' (σ.1.set a (.inr (.inl (t', n, upd f i.toNatClampNeg x))), σ.2) else none
    | _ => none
  | _ => none
def jk_zast : jm_I := fun _ pc L S σ => match S with
  | .inl x :: .inl i :: .inr (.inl (some a)) :: S' => match σ.1[a]? with
    | some (.inr (.inl (t', n, f))) => if t' = 1 ∧ jm_in i n = true then jm_nx (pc + 1) L S' (σ.1.set a (.inr (.inl (t', n, upd f i.toNatClampNeg (vp_nar .boolean x)))), σ.2) else none
    | _ => none
  | _ => none
def jk_aald (t : Nat) : jm_I := fun _ pc L S σ => match S with
  | .inl i :: .inr (.inl (some a)) :: S' => match σ.1[a]? with
    | some (.inr (.inr (t', rs))) => if t' = t ∧ jm_in i rs.length = true then jm_nx (pc + 1) L (.inr (.inl (rs[i.toNatClampNeg]?).join) :: S') σ else none
    | _ => none
  | _ => none
def jk_aast (t ci : Nat) : jm_I := fun _ pc L S σ => match S with
  | .inr (.inl (some v)) :: .inl i :: .inr (.inl (some a)) :: S' => match σ.1[a]?, σ.1[v]? with
    | some (.inr (.inr (t', rs))), some (.inl (cj, _)) => if t' = t ∧ cj = ci ∧ jm_in i rs.length = true then jm_nx (pc + 1) L S' (σ.1.set a (.inr (.inr (t', rs.set i.toNatClampNeg (some v)))), σ.2) else none
    | _, _ => none
  | _ => none
def jk_alen (nt : Nat) : jm_I := fun _ pc L S σ => match S with
  | .inr (.inl (some a)) :: S' => match σ.1[a]? with
    | some (.inr (.inl (t', n, _))) => if t' < nt then jm_nx (pc + 1) L (.inl (Int32.ofNat n) :: S') σ else none
    | some (.inr (.inr (t', rs))) => if t' < nt then jm_nx (pc + 1) L (.inl (Int32.ofNat rs.length) :: S') σ else none
    | _ => none
  | _ => none
/-- the script -/
def jk_slen : jm_I := fun X pc L S σ => match S with
  | .inr (.inr _) :: S' => jm_nx (pc + 1) L (.inl (Int32.ofNat X.1) :: S') σ
  | _ => none
def jk_sld : jm_I := fun X pc L S σ => match S with
  | .inl i :: .inr (.inr _) :: S' => if jm_in i X.1 = true then jm_nx (pc + 1) L (.inl (X.2 i.toNatClampNeg) :: S') σ else none
  | _ => none
def jk_newi (t : Nat) : jm_I := fun _ pc L S σ => match S with
  | .inl n :: S' => if ¬ n < 0 ∧ n.toNatClampNeg ≤ 100000 then jm_nx (pc + 2) L (.inr (.inl (some σ.1.length)) :: S') (σ.1 ++ [.inr (.inl (t, n.toNatClampNeg, fun _ => 0))], σ.2 + n.toNatClampNeg) else none
  | _ => none
def jk_newq (t : Nat) : jm_I := fun _ pc L S σ => match S with
  | .inl n :: S' => if ¬ n < 0 ∧ n.toNatClampNeg ≤ 100000 then jm_nx (pc + 3) L (.inr (.inl (some σ.1.length)) :: S') (σ.1 ++ [.inr (.inr (t, List.replicate n.toNatClampNeg none))], σ.2 + n.toNatClampNeg) else none
  | _ => none
def jk_new (ci : Nat) (fs : List jm_V) : jm_I := fun _ pc L S σ => jm_nx (pc + 3) L (.inr (.inl (some σ.1.length)) :: S) (σ.1 ++ [.inl (ci, fs)], σ.2 + fs.length)
/-- Object's constructor -/
def jk_oinit : jm_I := fun _ pc L S σ => match S with
  | .inr (.inl (some _)) :: S' => if S'.length ≤ 8 then jm_nx (pc + 3) L S' σ else none
  | _ => none
def jk_max : jm_I := fun _ pc L S σ => match S with
  | .inl y :: .inl x :: S' => if S'.length ≤ 8 then jm_nx (pc + 3) L (.inl (if x < y then y else x) :: S') σ else none
  | _ => none
def jk_min : jm_I := fun _ pc L S σ => match S with
  | .inl y :: .inl x :: S' => if S'.length ≤ 8 then jm_nx (pc + 3) L (.inl (if y < x then y else x) :: S') σ else none
  | _ => none
/-- takes n values off the stack, the last one first -/
def jm_pop : Nat → List jm_V → List jm_V → Option (List jm_V × List jm_V)
  | 0, S, acc => some (acc, S)
  | n + 1, v :: S, acc => jm_pop n S (v :: acc)
  | _ + 1, [], _ => none
/-- a call of a method of n arguments; of an object's method n doesn't count the object, whose class is ci -/
def jk_callS (y n : Nat) : jm_I := fun _ _ _ S _ => match jm_pop n S [] with
  | some (as, S') => if S'.length ≤ 8 then some (.inr (.inr (y, as, S'))) else none
  | none => none
def jk_callI (y n : Nat) : jm_I := fun _ _ _ S _ => match jm_pop (n + 1) S [] with
  | some (.inr (.inl (some a)) :: as, S') => if S'.length ≤ 8 then some (.inr (.inr (y, .inr (.inl (some a)) :: as, S'))) else none
  | _ => none
def jk_callV (y n ci : Nat) : jm_I := fun _ _ _ S σ => match jm_pop (n + 1) S [] with
  | some (.inr (.inl (some a)) :: as, S') => (match σ.1[a]? with
    | some (.inl (cj, _)) => if cj = ci ∧ S'.length ≤ 8 then some (.inr (.inr (y, .inr (.inl (some a)) :: as, S'))) else none
    | _ => none)
  | _ => none
def jk_ret : jm_I := fun _ _ _ S _ => match S with
  | [] => some (.inr (.inl none))
  | _ => none
def jk_iret : jm_I := fun _ _ _ S _ => match S with
  | [.inl x] => some (.inr (.inl (some (.inl x))))
  | _ => none
def jk_zret : jm_I := fun _ _ _ S _ => match S with
  | [.inl x] => if x = 0 ∨ x = 1 then some (.inr (.inl (some (.inl x)))) else none
  | _ => none
def jk_aret : jm_I := fun _ _ _ S _ => match S with
  | [.inr (.inl o)] => some (.inr (.inl (some (.inr (.inl o)))))
  | _ => none
/-- a method's locals at its beginning -/
def jm_loc (mx : Nat) (as : List jm_V) : jm_L := as.map some ++ List.replicate (mx - as.length) none
/-! running: with fuel, and without -/
def jm_go (rec : Nat → Nat → jm_L → List jm_V → jm_S → jm_R) (mx : Nat → Nat) (y pc : Nat) (L : jm_L) (σ : jm_S) (o : Option jm_O) : jm_R := match o with
  | none => none
  | some (.inl q) => rec y q.1 q.2.1 q.2.2.1 q.2.2.2
  | some (.inr (.inl r)) => some (r, σ)
  | some (.inr (.inr q)) => (rec q.1 0 (jm_loc (mx q.1) q.2.1) [] σ).bind (fun t => rec y (pc + 3) L (t.1.toList ++ q.2.2) t.2)
def jm_run (fe : Nat → Nat → Option jm_I) (mx : Nat → Nat) (X : jm_X) : Nat → Nat → Nat → jm_L → List jm_V → jm_S → jm_R
  | 0 => fun _ _ _ _ _ => none
  | F + 1 => fun y pc L S σ => jm_go (jm_run fe mx X F) mx y pc L σ ((fe y pc).bind (fun f => f X pc L S σ))
theorem jm_go_mono {r1 r2 : Nat → Nat → jm_L → List jm_V → jm_S → jm_R} (h : ∀ y pc L S σ r, r1 y pc L S σ = some r → r2 y pc L S σ = some r) {mx : Nat → Nat} {y pc : Nat} {L : jm_L} {σ : jm_S} {o : Option jm_O} {r : Option jm_V × jm_S} (h1 : jm_go r1 mx y pc L σ o = some r) : jm_go r2 mx y pc L σ o = some r := by
  match o, h1 with
  | none, h1 => cases h1
  | some (.inl q), h1 => exact h _ _ _ _ _ _ h1
  | some (.inr (.inl v)), h1 => exact h1
  | some (.inr (.inr q)), h1 =>
    have h2 : (r1 q.1 0 (jm_loc (mx q.1) q.2.1) [] σ).bind (fun t => r1 y (pc + 3) L (t.1.toList ++ q.2.2) t.2) = some r := h1
    obtain ⟨t, a, b⟩ := Option.bind_eq_some_iff.mp h2
    show (r2 q.1 0 (jm_loc (mx q.1) q.2.1) [] σ).bind (fun t => r2 y (pc + 3) L (t.1.toList ++ q.2.2) t.2) = some r
    rw [h _ _ _ _ _ _ a]
    exact h _ _ _ _ _ _ b
theorem jm_mono {fe : Nat → Nat → Option jm_I} {mx : Nat → Nat} {X : jm_X} : ∀ (F y pc : Nat) (L : jm_L) (S : List jm_V) (σ : jm_S) (r : Option jm_V × jm_S), jm_run fe mx X F y pc L S σ = some r → jm_run fe mx X (F + 1) y pc L S σ = some r := by
  intro F
  induction F with
  | zero => intro y pc L S σ r h; cases h
  | succ F ih =>
    intro y pc L S σ r h
    exact jm_go_mono (fun y pc L S σ r h => ih y pc L S σ r h) h
theorem jm_mono_le {fe : Nat → Nat → Option jm_I} {mx : Nat → Nat} {X : jm_X} {F G y pc : Nat} {L : jm_L} {S : List jm_V} {σ : jm_S} {r : Option jm_V × jm_S} (hFG : F ≤ G) (h : jm_run fe mx X F y pc L S σ = some r) : jm_run fe mx X G y pc L S σ = some r := by
  induction hFG with
  | refl => exact h
  | step _ ih => exact jm_mono _ _ _ _ _ _ _ ih
noncomputable def jm_lim (fe : Nat → Nat → Option jm_I) (mx : Nat → Nat) (X : jm_X) (y pc : Nat) (L : jm_L) (S : List jm_V) (σ : jm_S) : jm_R :=
  @dite jm_R (∃ F r, jm_run fe mx X F y pc L S σ = some r) (Classical.propDecidable _) (fun h => jm_run fe mx X (Classical.choose h) y pc L S σ) (fun _ => none)
theorem jm_lim_of {fe : Nat → Nat → Option jm_I} {mx : Nat → Nat} {X : jm_X} {F y pc : Nat} {L : jm_L} {S : List jm_V} {σ : jm_S} {r : Option jm_V × jm_S} (h : jm_run fe mx X F y pc L S σ = some r) : jm_lim fe mx X y pc L S σ = some r := by
  have hx : ∃ F r, jm_run fe mx X F y pc L S σ = some r := ⟨F, r, h⟩
  unfold jm_lim
  rw [dif_pos hx]
  obtain ⟨r', h'⟩ := Classical.choose_spec hx
  have h1 := jm_mono_le (Nat.le_max_left F (Classical.choose hx)) h
  have h2 := jm_mono_le (Nat.le_max_right F (Classical.choose hx)) h'
  rw [h1] at h2
  cases h2
  exact h'
theorem jm_of_lim {fe : Nat → Nat → Option jm_I} {mx : Nat → Nat} {X : jm_X} {y pc : Nat} {L : jm_L} {S : List jm_V} {σ : jm_S} {r : Option jm_V × jm_S} (h : jm_lim fe mx X y pc L S σ = some r) : ∃ F, jm_run fe mx X F y pc L S σ = some r := by
  unfold jm_lim at h
  by_cases hx : ∃ F r, jm_run fe mx X F y pc L S σ = some r
  · rw [dif_pos hx] at h
    exact ⟨_, h⟩
  · rw [dif_neg hx] at h
    cases h
theorem jm_go_lim {fe : Nat → Nat → Option jm_I} {mx : Nat → Nat} {X : jm_X} {y pc : Nat} {L : jm_L} {σ : jm_S} {o : Option jm_O} {r : Option jm_V × jm_S} (h : jm_go (jm_lim fe mx X) mx y pc L σ o = some r) : ∃ F, jm_go (jm_run fe mx X F) mx y pc L σ o = some r := by
  match o, h with
  | none, h => cases h
  | some (.inl q), h => exact jm_of_lim (show jm_lim fe mx X y q.1 q.2.1 q.2.2.1 q.2.2.2 = some r from h)
  | some (.inr (.inl v)), h => exact ⟨0, h⟩
  | some (.inr (.inr q)), h =>
    have h2 : (jm_lim fe mx X q.1 0 (jm_loc (mx q.1) q.2.1) [] σ).bind (fun t => jm_lim fe mx X y (pc + 3) L (t.1.toList ++ q.2.2) t.2) = some r := h
    obtain ⟨t, a, b⟩ := Option.bind_eq_some_iff.mp h2
    obtain ⟨F1, a1⟩ := jm_of_lim a
    obtain ⟨F2, b1⟩ := jm_of_lim b
    refine ⟨max F1 F2, ?_⟩
    show (jm_run fe mx X (max F1 F2) q.1 0 (jm_loc (mx q.1) q.2.1) [] σ).bind (fun t => jm_run fe mx X (max F1 F2) y (pc + 3) L (t.1.toList ++ q.2.2) t.2) = some r
    rw [jm_mono_le (Nat.le_max_left F1 F2) a1]
    exact jm_mono_le (Nat.le_max_right F1 F2) b1
theorem jm_lim_eq (fe : Nat → Nat → Option jm_I) (mx : Nat → Nat) (X : jm_X) (y pc : Nat) (L : jm_L) (S : List jm_V) (σ : jm_S) : jm_lim fe mx X y pc L S σ = jm_go (jm_lim fe mx X) mx y pc L σ ((fe y pc).bind (fun f => f X pc L S σ)) := by
  apply Option.ext
  intro r
  constructor
  · intro h
    obtain ⟨F, h⟩ := jm_of_lim h
    cases F with
    | zero => cases h
    | succ F => exact jm_go_mono (fun y pc L S σ r h => jm_lim_of h) h
  · intro h
    obtain ⟨F, hF⟩ := jm_go_lim h
    exact jm_lim_of (F := F + 1) hF
