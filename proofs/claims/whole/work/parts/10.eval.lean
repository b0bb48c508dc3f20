/-! REWRITING WITH THE SMALL MACHINE: one equation for each kind of instruction -/
noncomputable def je (X : jm_X) : Nat → Nat → jm_L → List jm_V → jm_S → jm_R := jm_lim jm_fe jm_mx X
/-- field ci.k of the cell a -/
def jm_gf (h : jm_H) (a ci k : Nat) : Option jm_V := match h[a]? with
  | some (.inl q) => if q.1 = ci then q.2[k]? else none
  | _ => none
def jm_pf (h : jm_H) (a ci k kd : Nat) (v : jm_V) : Option jm_H := match h[a]? with
  | some (.inl q) => if q.1 = ci ∧ k < q.2.length ∧ jm_fit kd v = true then some (h.set a (.inl (q.1, q.2.set k v))) else none
  | _ => none
def jm_al (h : jm_H) (a t : Nat) (i : Int32) : Option Int32 := match h[a]? with
  | some (.inr (.inl q)) => if q.1 = t ∧ jm_in i q.2.1 = true then some (q.2.2 i.toNatClampNeg) else none
  | _ => none
def jm_as (h : jm_H) (a t : Nat) (i x : Int32) : Option jm_H := match h[a]? with
  | some (.inr (.inl q)) => if q.1 = t ∧ jm_in i q.2.1 = true then some (h.set a (.inr (.inl (q.1, q.2.1, upd q.2.2 i.toNatClampNeg x)))) else none
  | _ => none
def jm_ar (h : jm_H) (a t : Nat) (i : Int32) : Option (Option Nat) := match h[a]? with
  | some (.inr (.inr q)) => if q.1 = t ∧ jm_in i q.2.length = true then some (q.2[i.toNatClampNeg]?).join else none
  | _ => none
def jm_an (h : jm_H) (a nt : Nat) : Option Int32 := match h[a]? with
  | some (.inr (.inl q)) => if q.1 < nt then some (Int32.ofNat q.2.1) else none
  | some (.inr (.inr q)) => if q.1 < nt then some (Int32.ofNat q.2.length) else none
  | _ => none
def jm_cl (h : jm_H) (a : Nat) : Option Nat := match h[a]? with
  | some (.inl q) => some q.1
  | _ => none
/-! what goes on behind a read, a write, a call: without a binder, so that rewriting stops there until it is known -/
noncomputable def je_v (X : jm_X) (y pc : Nat) (L : jm_L) (S : List jm_V) (σ : jm_S) (o : Option jm_V) : jm_R := o.bind (fun v => je X y pc L (v :: S) σ)
noncomputable def je_i (X : jm_X) (y pc : Nat) (L : jm_L) (S : List jm_V) (σ : jm_S) (o : Option Int32) : jm_R := o.bind (fun v => je X y pc L (.inl v :: S) σ)
noncomputable def je_r (X : jm_X) (y pc : Nat) (L : jm_L) (S : List jm_V) (σ : jm_S) (o : Option (Option Nat)) : jm_R := o.bind (fun v => je X y pc L (.inr (.inl v) :: S) σ)
noncomputable def je_h (X : jm_X) (y pc : Nat) (L : jm_L) (S : List jm_V) (z : Nat) (o : Option jm_H) : jm_R := o.bind (fun h => je X y pc L S (h, z))
noncomputable def je_c (X : jm_X) (y pc : Nat) (L : jm_L) (S : List jm_V) (o : jm_R) : jm_R := o.bind (fun t => je X y pc L (t.1.toList ++ S) t.2)
section JE
variable {X : jm_X} {y pc : Nat} {L L' : jm_L} {S S' : List jm_V} {σ : jm_S}
theorem je_v1 {v : jm_V} : je_v X y pc L S σ (some v) = je X y pc L (v :: S) σ := rfl
theorem je_i1 {v : Int32} : je_i X y pc L S σ (some v) = je X y pc L (.inl v :: S) σ := rfl
theorem je_r1 {v : Option Nat} : je_r X y pc L S σ (some v) = je X y pc L (.inr (.inl v) :: S) σ := rfl
theorem je_h1 {h : jm_H} {z : Nat} : je_h X y pc L S z (some h) = je X y pc L S (h, z) := rfl
theorem je_c0 : je_c X y pc L S (some (none, σ)) = je X y pc L S σ := rfl
theorem je_c1 {v : jm_V} : je_c X y pc L S (some (some v, σ)) = je X y pc L (v :: S) σ := rfl
theorem je_cif {c : Prop} {_ : Decidable c} {a b : jm_R} : je_c X y pc L S (if c then a else b) = if c then je_c X y pc L S a else je_c X y pc L S b := by
  split <;> rfl
theorem je_step {f : jm_I} (h : jm_fe y pc = some f) : je X y pc L S σ = jm_go (je X) jm_mx y pc L σ (f X pc L S σ) := by
  unfold je
  rw [jm_lim_eq, h]
  rfl
theorem je_const {x : Int32} {n : Nat} (h : jm_fe y pc = some (jk_const x n)) : je X y pc L S σ = je X y (pc + n) L (.inl x :: S) σ := je_step h
theorem je_null (h : jm_fe y pc = some jk_null) : je X y pc L S σ = je X y (pc + 1) L (.inr (.inl none) :: S) σ := je_step h
theorem je_iload {i n : Nat} {x : Int32} (h : jm_fe y pc = some (jk_iload i n)) (hL : L[i]? = some (some (.inl x))) : je X y pc L S σ = je X y (pc + n) L (.inl x :: S) σ := by
  rw [je_step h]; simp only [jk_iload, hL]; rfl
theorem je_aload {i n : Nat} {r : Option Nat ⊕ Unit} (h : jm_fe y pc = some (jk_aload i n)) (hL : L[i]? = some (some (.inr r))) : je X y pc L S σ = je X y (pc + n) L (.inr r :: S) σ := by
  rw [je_step h]; simp only [jk_aload, hL]; rfl
theorem je_istore {i n : Nat} {x : Int32} (h : jm_fe y pc = some (jk_istore i n)) (hi : i < L.length) : je X y pc L (.inl x :: S) σ = je X y (pc + n) (L.set i (some (.inl x))) S σ := by
  rw [je_step h]; simp only [jk_istore, if_pos hi]; rfl
theorem je_astore {i n : Nat} {r : Option Nat ⊕ Unit} (h : jm_fe y pc = some (jk_astore i n)) (hi : i < L.length) : je X y pc L (.inr r :: S) σ = je X y (pc + n) (L.set i (some (.inr r))) S σ := by
  rw [je_step h]; simp only [jk_astore, if_pos hi]; rfl
theorem je_iinc {i : Nat} {k x : Int32} (h : jm_fe y pc = some (jk_iinc i k)) (hL : L[i]? = some (some (.inl x))) : je X y pc L S σ = je X y (pc + 3) (L.set i (some (.inl (x + k)))) S σ := by
  rw [je_step h]; simp only [jk_iinc, hL]; rfl
theorem je_dup {v : jm_V} (h : jm_fe y pc = some jk_dup) : je X y pc L (v :: S) σ = je X y (pc + 1) L (v :: v :: S) σ := je_step h
theorem je_pop {v : jm_V} (h : jm_fe y pc = some jk_pop) : je X y pc L (v :: S) σ = je X y (pc + 1) L S σ := je_step h
theorem je_dup_x1 {v w : jm_V} (h : jm_fe y pc = some jk_dup_x1) : je X y pc L (v :: w :: S) σ = je X y (pc + 1) L (v :: w :: v :: S) σ := je_step h
theorem je_dup2 {v w : jm_V} (h : jm_fe y pc = some jk_dup2) : je X y pc L (v :: w :: S) σ = je X y (pc + 1) L (v :: w :: v :: w :: S) σ := je_step h
theorem je_bin {g : Int32 → Int32 → Int32} {a b : Int32} (h : jm_fe y pc = some (jk_bin g)) : je X y pc L (.inl b :: .inl a :: S) σ = je X y (pc + 1) L (.inl (g a b) :: S) σ := je_step h
theorem je_div {a b : Int32} (h : jm_fe y pc = some jk_div) : je X y pc L (.inl b :: .inl a :: S) σ = if b = 0 then none else je X y (pc + 1) L (.inl (a / b) :: S) σ := by
  rw [je_step h]; simp only [jk_div]; split <;> rfl
theorem je_rem {a b : Int32} (h : jm_fe y pc = some jk_rem) : je X y pc L (.inl b :: .inl a :: S) σ = if b = 0 then none else je X y (pc + 1) L (.inl (a - a / b * b) :: S) σ := by
  rw [je_step h]; simp only [jk_rem]; split <;> rfl
theorem je_neg {a : Int32} (h : jm_fe y pc = some jk_neg) : je X y pc L (.inl a :: S) σ = je X y (pc + 1) L (.inl (-a) :: S) σ := je_step h
theorem je_goto {t : Nat} (h : jm_fe y pc = some (jk_goto t)) : je X y pc L S σ = je X y t L S σ := je_step h
theorem je_if_eq {t : Nat} {x : Int32} (h : jm_fe y pc = some (jk_if .eq t)) : je X y pc L (.inl x :: S) σ = if x = 0 then je X y t L S σ else je X y (pc + 3) L S σ := by
  rw [je_step h]; simp only [jk_if, jm_c, decide_eq_true_eq]; split <;> rfl
theorem je_if_ne {t : Nat} {x : Int32} (h : jm_fe y pc = some (jk_if .ne t)) : je X y pc L (.inl x :: S) σ = if x = 0 then je X y (pc + 3) L S σ else je X y t L S σ := by
  rw [je_step h]; simp only [jk_if, jm_c, decide_eq_true_eq]; by_cases hx : x = 0 <;> simp [hx] <;> rfl
theorem je_if_lt {t : Nat} {x : Int32} (h : jm_fe y pc = some (jk_if .lt t)) : je X y pc L (.inl x :: S) σ = if x < 0 then je X y t L S σ else je X y (pc + 3) L S σ := by
  rw [je_step h]; simp only [jk_if, jm_c, decide_eq_true_eq]; split <;> rfl
theorem je_if_ge {t : Nat} {x : Int32} (h : jm_fe y pc = some (jk_if .ge t)) : je X y pc L (.inl x :: S) σ = if 0 ≤ x then je X y t L S σ else je X y (pc + 3) L S σ := by
  rw [je_step h]; simp only [jk_if, jm_c, decide_eq_true_eq]; split <;> rfl
theorem je_if_gt {t : Nat} {x : Int32} (h : jm_fe y pc = some (jk_if .gt t)) : je X y pc L (.inl x :: S) σ = if 0 < x then je X y t L S σ else je X y (pc + 3) L S σ := by
  rw [je_step h]; simp only [jk_if, jm_c, decide_eq_true_eq]; split <;> rfl
theorem je_if_le {t : Nat} {x : Int32} (h : jm_fe y pc = some (jk_if .le t)) : je X y pc L (.inl x :: S) σ = if x ≤ 0 then je X y t L S σ else je X y (pc + 3) L S σ := by
  rw [je_step h]; simp only [jk_if, jm_c, decide_eq_true_eq]; split <;> rfl
theorem je_icmp_eq {t : Nat} {a b : Int32} (h : jm_fe y pc = some (jk_icmp .eq t)) : je X y pc L (.inl b :: .inl a :: S) σ = if a = b then je X y t L S σ else je X y (pc + 3) L S σ := by
  rw [je_step h]; simp only [jk_icmp, jm_c, decide_eq_true_eq]; split <;> rfl
theorem je_icmp_ne {t : Nat} {a b : Int32} (h : jm_fe y pc = some (jk_icmp .ne t)) : je X y pc L (.inl b :: .inl a :: S) σ = if a = b then je X y (pc + 3) L S σ else je X y t L S σ := by
  rw [je_step h]; simp only [jk_icmp, jm_c, decide_eq_true_eq]; by_cases hx : a = b <;> simp [hx] <;> rfl
theorem je_icmp_lt {t : Nat} {a b : Int32} (h : jm_fe y pc = some (jk_icmp .lt t)) : je X y pc L (.inl b :: .inl a :: S) σ = if a < b then je X y t L S σ else je X y (pc + 3) L S σ := by
  rw [je_step h]; simp only [jk_icmp, jm_c, decide_eq_true_eq]; split <;> rfl
theorem je_icmp_ge {t : Nat} {a b : Int32} (h : jm_fe y pc = some (jk_icmp .ge t)) : je X y pc L (.inl b :: .inl a :: S) σ = if b ≤ a then je X y t L S σ else je X y (pc + 3) L S σ := by
  rw [je_step h]; simp only [jk_icmp, jm_c, decide_eq_true_eq]; split <;> rfl
theorem je_icmp_gt {t : Nat} {a b : Int32} (h : jm_fe y pc = some (jk_icmp .gt t)) : je X y pc L (.inl b :: .inl a :: S) σ = if b < a then je X y t L S σ else je X y (pc + 3) L S σ := by
  rw [je_step h]; simp only [jk_icmp, jm_c, decide_eq_true_eq]; split <;> rfl
theorem je_icmp_le {t : Nat} {a b : Int32} (h : jm_fe y pc = some (jk_icmp .le t)) : je X y pc L (.inl b :: .inl a :: S) σ = if a ≤ b then je X y t L S σ else je X y (pc + 3) L S σ := by
  rw [je_step h]; simp only [jk_icmp, jm_c, decide_eq_true_eq]; split <;> rfl
theorem je_ifnull {t : Nat} {o : Option Nat} (h : jm_fe y pc = some (jk_ifnull t)) : je X y pc L (.inr (.inl o) :: S) σ = if o = none then je X y t L S σ else je X y (pc + 3) L S σ := by
  rw [je_step h]; cases o <;> simp [jk_ifnull] <;> rfl
theorem je_ifnonnull {t : Nat} {o : Option Nat} (h : jm_fe y pc = some (jk_ifnonnull t)) : je X y pc L (.inr (.inl o) :: S) σ = if o = none then je X y (pc + 3) L S σ else je X y t L S σ := by
  rw [je_step h]; cases o <;> simp [jk_ifnonnull] <;> rfl
theorem je_sw {cs : List (Int32 × Nat)} {df : Nat} {x : Int32} (h : jm_fe y pc = some (jk_sw cs df)) : je X y pc L (.inl x :: S) σ = je X y (jm_sw cs df x) L S σ := je_step h
theorem je_getf {ci k a : Nat} (h : jm_fe y pc = some (jk_getf ci k)) : je X y pc L (.inr (.inl (some a)) :: S) σ = (jm_gf σ.1 a ci k).bind (fun v => je X y (pc + 3) L (v :: S) σ) := by
  rw [je_step h]
  simp only [jk_getf, jm_gf]
  rcases σ.1[a]? with _ | (⟨cj, fs⟩ | q)
  · rfl
  · simp only
    by_cases hc : cj = ci
    · rcases hk : fs[k]? with _ | v <;> simp [hc, hk] <;> rfl
    · rcases hk : fs[k]? with _ | v <;> simp [hc, hk] <;> rfl
  · rfl
theorem je_putf {ci k kd a : Nat} {v : jm_V} (h : jm_fe y pc = some (jk_putf ci k kd)) : je X y pc L (v :: .inr (.inl (some a)) :: S) σ = (jm_pf σ.1 a ci k kd v).bind (fun h' => je X y (pc + 3) L S (h', σ.2)) := by
  rw [je_step h]
  simp only [jk_putf, jm_pf]
  rcases σ.1[a]? with _ | (⟨cj, fs⟩ | q)
  · rfl
  · simp only
    split <;> rfl
  · rfl
theorem je_ald {t a : Nat} {i : Int32} (h : jm_fe y pc = some (jk_ald t)) : je X y pc L (.inl i :: .inr (.inl (some a)) :: S) σ = (jm_al σ.1 a t i).bind (fun v => je X y (pc + 1) L (.inl v :: S) σ) := by
  rw [je_step h]
  simp only [jk_ald, jm_al]
  rcases σ.1[a]? with _ | (q | (⟨t', n, f⟩ | q))
  · rfl
  · rfl
  · simp only
    split <;> rfl
  · rfl
theorem je_iast {a : Nat} {i x : Int32} (h : jm_fe y pc = some jk_iast) : je X y pc L (.inl x :: .inl i :: .inr (.inl (some a)) :: S) σ = (jm_as σ.1 a 0 i x).bind (fun h' => je X y (pc + 1) L S (h', σ.2)) := by
  rw [je_step h]
  simp only [jk_iast, jm_as]
  rcases σ.1[a]? with _ | (q | (⟨t', n, f⟩ | q))
  · rfl
  · rfl
  · simp only
    split <;> rfl
  · rfl
theorem je_zast {a : Nat} {i x : Int32} (h : jm_fe y pc = some jk_zast) : je X y pc L (.inl x :: .inl i :: .inr (.inl (some a)) :: S) σ = (jm_as σ.1 a 1 i (vp_nar .boolean x)).bind (fun h' => je X y (pc + 1) L S (h', σ.2)) := by
  rw [je_step h]
  simp only [jk_zast, jm_as]
  rcases σ.1[a]? with _ | (q | (⟨t', n, f⟩ | q))
  · rfl
  · rfl
  · simp only
    split <;> rfl
  · rfl
theorem je_aald {t a : Nat} {i : Int32} (h : jm_fe y pc = some (jk_aald t)) : je X y pc L (.inl i :: .inr (.inl (some a)) :: S) σ = (jm_ar σ.1 a t i).bind (fun o => je X y (pc + 1) L (.inr (.inl o) :: S) σ) := by
  rw [je_step h]
  simp only [jk_aald, jm_ar]
  rcases σ.1[a]? with _ | (q | (q | ⟨t', rs⟩))
  · rfl
  · rfl
  · rfl
  · simp only
    split <;> rfl
theorem je_alen {nt a : Nat} (h : jm_fe y pc = some (jk_alen nt)) : je X y pc L (.inr (.inl (some a)) :: S) σ = (jm_an σ.1 a nt).bind (fun v => je X y (pc + 1) L (.inl v :: S) σ) := by
  rw [je_step h]
  simp only [jk_alen, jm_an]
  rcases σ.1[a]? with _ | (q | (⟨t', n, f⟩ | ⟨t', rs⟩))
  · rfl
  · rfl
  · simp only
    split <;> rfl
  · simp only
    split <;> rfl
theorem je_slen {u : Unit} (h : jm_fe y pc = some jk_slen) : je X y pc L (.inr (.inr u) :: S) σ = je X y (pc + 1) L (.inl (Int32.ofNat X.1) :: S) σ := je_step h
theorem je_sld {u : Unit} {i : Int32} (h : jm_fe y pc = some jk_sld) (hi : jm_in i X.1 = true) : je X y pc L (.inl i :: .inr (.inr u) :: S) σ = je X y (pc + 1) L (.inl (X.2 i.toNatClampNeg) :: S) σ := by
  rw [je_step h]; simp only [jk_sld, if_pos hi]; rfl
theorem je_max {a b : Int32} (h : jm_fe y pc = some jk_max) (h8 : S.length ≤ 8) : je X y pc L (.inl b :: .inl a :: S) σ = je X y (pc + 3) L (.inl (if a < b then b else a) :: S) σ := by
  rw [je_step h]; simp only [jk_max, if_pos h8]; rfl
theorem je_min {a b : Int32} (h : jm_fe y pc = some jk_min) (h8 : S.length ≤ 8) : je X y pc L (.inl b :: .inl a :: S) σ = je X y (pc + 3) L (.inl (if b < a then b else a) :: S) σ := by
  rw [je_step h]; simp only [jk_min, if_pos h8]; rfl
theorem je_work {a b op : Int32} (h : jm_fe y pc = some jk_work) (h8 : S.length ≤ 8) : je X y pc L (.inl b :: .inl a :: .inl op :: S) σ = if (op = 9 ∨ op = 10) ∧ b = 0 then none else je X y (pc + 3) L (.inl (jm_wk op a b) :: S) σ := by
  have h9 : ¬ 8 < S.length := by omega
  rw [je_step h]; simp only [jk_work, h9, or_false]; split <;> rfl
theorem je_callS {y' n : Nat} {as : List jm_V} (h : jm_fe y pc = some (jk_callS y' n)) (hp : jm_pop n S [] = some (as, S')) (h8 : S'.length ≤ 8) : je X y pc L S σ = (je X y' 0 (jm_loc (jm_mx y') as) [] σ).bind (fun t => je X y (pc + 3) L (t.1.toList ++ S') t.2) := by
  rw [je_step h]; simp only [jk_callS, hp, if_pos h8]; rfl
theorem je_callI {y' n a : Nat} {as : List jm_V} (h : jm_fe y pc = some (jk_callI y' n)) (hp : jm_pop (n + 1) S [] = some (.inr (.inl (some a)) :: as, S')) (h8 : S'.length ≤ 8) : je X y pc L S σ = (je X y' 0 (jm_loc (jm_mx y') (.inr (.inl (some a)) :: as)) [] σ).bind (fun t => je X y (pc + 3) L (t.1.toList ++ S') t.2) := by
  rw [je_step h]; simp only [jk_callI, hp, if_pos h8]; rfl
theorem je_callV {y' n ci a : Nat} {as : List jm_V} (h : jm_fe y pc = some (jk_callV y' n ci)) (hp : jm_pop (n + 1) S [] = some (.inr (.inl (some a)) :: as, S')) (hc : jm_cl σ.1 a = some ci) (h8 : S'.length ≤ 8) : je X y pc L S σ = (je X y' 0 (jm_loc (jm_mx y') (.inr (.inl (some a)) :: as)) [] σ).bind (fun t => je X y (pc + 3) L (t.1.toList ++ S') t.2) := by
  rw [je_step h]
  unfold jm_cl at hc
  rcases hh : σ.1[a]? with _ | (⟨cj, fs⟩ | q)
  · rw [hh] at hc; cases hc
  · rw [hh] at hc
    cases hc
    simp only [jk_callV, hp, hh, true_and, if_pos h8]
    rfl
  · rw [hh] at hc; cases hc
theorem je_ret (h : jm_fe y pc = some jk_ret) : je X y pc L [] σ = some (none, σ) := je_step h
theorem je_iret {x : Int32} (h : jm_fe y pc = some jk_iret) : je X y pc L [.inl x] σ = some (some (.inl x), σ) := je_step h
theorem je_zret {x : Int32} (h : jm_fe y pc = some jk_zret) (hx : x = 0 ∨ x = 1) : je X y pc L [.inl x] σ = some (some (.inl x), σ) := by
  rw [je_step h]; simp only [jk_zret, if_pos hx]; rfl
theorem je_aret {o : Option Nat} (h : jm_fe y pc = some jk_aret) : je X y pc L [.inr (.inl o)] σ = some (some (.inr (.inl o)), σ) := je_step h
theorem je_ite {c : Prop} {_ : Decidable c} {a b : Nat} : je X y (if c then a else b) L S σ = if c then je X y a L S σ else je X y b L S σ := by
  split <;> rfl
end JE
