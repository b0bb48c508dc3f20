/-! THE CONSTRUCTORS -/
section JI0
variable {X : jm_X} {y pc : Nat} {L : jm_L} {S : List jm_V} {g l r E : jm_H} {n z f : Nat} {fs : List jm_V} {v : jm_V} {rs : List (Option Nat)} {x : Int32} {o c c' d : jm_C} {σ : jm_S} {a : Nat}
theorem jz_set : ∀ (g : jm_H), (g ++ (c :: r)).set g.length c' = g ++ (c' :: r) := by
  intro g
  induction g with
  | nil => rfl
  | cons b g ih =>
    show b :: (g ++ (c :: r)).set g.length c' = b :: (g ++ (c' :: r))
    rw [ih]
theorem jz_set1 : ∀ (g : jm_H), (g ++ (o :: c :: r)).set (g.length + 1) c' = g ++ (o :: c' :: r) := by
  intro g
  induction g with
  | nil => rfl
  | cons b g ih =>
    show b :: (g ++ (o :: c :: r)).set (g.length + 1) c' = b :: (g ++ (o :: c' :: r))
    rw [ih]
theorem jz_get : (g ++ (c :: r))[g.length]? = some c := by
  rw [List.getElem?_append_right (Nat.le_refl _), Nat.sub_self]
  rfl
theorem jz_get1 : (g ++ (o :: c :: r))[g.length + 1]? = some c := by
  rw [List.getElem?_append_right (by omega), show g.length + 1 - g.length = 1 by omega]
  rfl
theorem jz_get2 : (g ++ (o :: c :: (E ++ (d :: r))))[g.length + (E.length + 2)]? = some d := by
  rw [List.getElem?_append_right (by omega), show g.length + (E.length + 2) - g.length = E.length + 2 by omega]
  show (E ++ (d :: r))[E.length]? = some d
  exact jz_get
theorem je_oinit (h : jm_fe y pc = some jk_oinit) (h8 : Nat.ble S.length 8 = true) : je X y pc L (.inr (.inl (some a)) :: S) σ = je X y (pc + 3) L S σ := by
  rw [je_step h]
  simp only [jk_oinit, if_pos (Nat.le_of_ble_eq_true h8)]
  rfl
theorem je_new {ci N : Nat} (h : jm_fe y pc = some (jk_new ci fs)) (hN : fs.length = N) : je X y pc L S (g ++ l, z) = je X y (pc + 3) L (.inr (.inl (some (g.length + l.length))) :: S) (g ++ (l ++ [.inl (ci, fs)]), z + N) := by
  rw [je_step h, ← hN, ← List.length_append, ← List.append_assoc]
  rfl
theorem je_newi {t N : Nat} (h : jm_fe y pc = some (jk_newi t)) (h1 : ¬ x < 0) (h2 : x.toNatClampNeg = N) (h3 : N ≤ 100000) : je X y pc L (.inl x :: S) (g ++ l, z) = je X y (pc + 2) L (.inr (.inl (some (g.length + l.length))) :: S) (g ++ (l ++ [.inr (.inl (t, N, fun _ => 0))]), z + N) := by
  subst h2
  rw [je_step h, ← List.length_append, ← List.append_assoc]
  simp only [jk_newi]
  rw [if_pos ⟨h1, h3⟩]
  rfl
theorem je_newq {t N : Nat} (h : jm_fe y pc = some (jk_newq t)) (h1 : ¬ x < 0) (h2 : x.toNatClampNeg = N) (h3 : N ≤ 100000) : je X y pc L (.inl x :: S) (g ++ l, z) = je X y (pc + 3) L (.inr (.inl (some (g.length + l.length))) :: S) (g ++ (l ++ [.inr (.inr (t, List.replicate N none))]), z + N) := by
  subst h2
  rw [je_step h, ← List.length_append, ← List.append_assoc]
  simp only [jk_newq]
  rw [if_pos ⟨h1, h3⟩]
  rfl
theorem je_putf0 {ci k kd : Nat} (h : jm_fe y pc = some (jk_putf ci k kd)) (hn : g.length = n) (hk : Nat.blt k fs.length = true) (hf : jm_fit kd v = true) : je X y pc L (v :: .inr (.inl (some n)) :: S) (g ++ (.inl (ci, fs) :: r), z) = je X y (pc + 3) L S (g ++ (.inl (ci, fs.set k v) :: r), z) := by
  subst hn
  have e : jm_pf (g ++ (.inl (ci, fs) :: r)) g.length ci k kd v = some (g ++ (.inl (ci, fs.set k v) :: r)) := by
    unfold jm_pf
    rw [jz_get]
    show (if ci = ci ∧ k < fs.length ∧ jm_fit kd v = true then some ((g ++ (.inl (ci, fs) :: r)).set g.length (.inl (ci, fs.set k v))) else none) = _
    rw [if_pos ⟨rfl, Nat.le_of_ble_eq_true hk, hf⟩, jz_set]
  rw [je_putf h]
  show (jm_pf (g ++ (.inl (ci, fs) :: r)) g.length ci k kd v).bind _ = _
  rw [e]
  rfl
theorem je_getf0 {ci k : Nat} (h : jm_fe y pc = some (jk_getf ci k)) (hn : g.length = n) (hv : fs[k]? = some v) : je X y pc L (.inr (.inl (some n)) :: S) (g ++ (.inl (ci, fs) :: r), z) = je X y (pc + 3) L (v :: S) (g ++ (.inl (ci, fs) :: r), z) := by
  subst hn
  have e : jm_gf (g ++ (.inl (ci, fs) :: r)) g.length ci k = some v := by
    unfold jm_gf
    rw [jz_get]
    show (if ci = ci then fs[k]? else none) = _
    rw [if_pos rfl, hv]
  rw [je_getf h]
  show (jm_gf (g ++ (.inl (ci, fs) :: r)) g.length ci k).bind _ = _
  rw [e]
  rfl
theorem je_aast0 {t ci : Nat} (h : jm_fe y pc = some (jk_aast t ci)) (hn : g.length = n) (hf : E.length = f) (hx : jm_in x rs.length = true) : je X y pc L (.inr (.inl (some (n + (f + 2)))) :: .inl x :: .inr (.inl (some (n + 1))) :: S) (g ++ (o :: .inr (.inr (t, rs)) :: (E ++ (.inl (ci, fs) :: r))), z) = je X y (pc + 1) L S (g ++ (o :: .inr (.inr (t, rs.set x.toNatClampNeg (some (n + (f + 2))))) :: (E ++ (.inl (ci, fs) :: r))), z) := by
  subst hn
  subst hf
  have e1 : (g ++ (o :: .inr (.inr (t, rs)) :: (E ++ (.inl (ci, fs) :: r))))[g.length + 1]? = some (.inr (.inr (t, rs))) := jz_get1
  have e2 : (g ++ (o :: .inr (.inr (t, rs)) :: (E ++ (.inl (ci, fs) :: r))))[g.length + (E.length + 2)]? = some (.inl (ci, fs)) := jz_get2
  rw [je_step h]
  simp only [jk_aast, e1, e2]
  rw [if_pos ⟨trivial, trivial, hx⟩, jz_set1]
  rfl
end JI0
section JI
variable {X : jm_X} {L : jm_L} {S : List jm_V} {σ : jm_S} {g l r E : jm_H} {n z f a i : Nat} {fs : List jm_V} {l0 l1 l2 l3 : Option jm_V} {x p q : Int32} {rr rp ra : Option Nat ⊕ Unit} {v v0 v1 : jm_V} {rs : List (Option Nat)} {o : jm_C}
theorem ii_68_0 : je X 68 0 [some (.inr rr), l1, l2] S σ = je X 68 1 [some (.inr rr), l1, l2] (.inr rr :: S) σ := je_aload (show jm_fe 68 0 = some (jk_aload 0 1) from rfl) rfl
theorem ii_68_1 (h8 : Nat.ble S.length 8 = true) : je X 68 1 L (.inr (.inl (some a)) :: S) σ = je X 68 4 L S σ := je_oinit (show jm_fe 68 1 = some (jk_oinit) from rfl) h8
theorem ii_68_4 : je X 68 4 L S σ = je X 68 5 L (.inl 0 :: S) σ := je_const (show jm_fe 68 4 = some (jk_const 0 1) from rfl)
theorem ii_68_5 : je X 68 5 [l0, some (.inl x), l2] S σ = je X 68 6 [l0, some (.inl x), l2] (.inl x :: S) σ := je_iload (show jm_fe 68 5 = some (jk_iload 1 1) from rfl) rfl
theorem ii_68_6_8 (h8 : Nat.ble S.length 8 = true) : je X 68 6 L (.inl 8 :: .inl 0 :: S) σ = je X 68 9 L (.inl 8 :: S) σ := (je_max (show jm_fe 68 6 = some (jk_max) from rfl) (Nat.le_of_ble_eq_true h8)).trans (by rw [if_pos (by decide)])
theorem ii_68_6_16 (h8 : Nat.ble S.length 8 = true) : je X 68 6 L (.inl 16 :: .inl 0 :: S) σ = je X 68 9 L (.inl 16 :: S) σ := (je_max (show jm_fe 68 6 = some (jk_max) from rfl) (Nat.le_of_ble_eq_true h8)).trans (by rw [if_pos (by decide)])
theorem ii_68_9 : je X 68 9 [l0, l1, l2] (.inl x :: S) σ = je X 68 10 [l0, l1, some (.inl x)] S σ := je_istore (show jm_fe 68 9 = some (jk_istore 2 1) from rfl) (Nat.le_of_ble_eq_true rfl)
theorem ii_68_10 : je X 68 10 [some (.inr rr), l1, l2] S σ = je X 68 11 [some (.inr rr), l1, l2] (.inr rr :: S) σ := je_aload (show jm_fe 68 10 = some (jk_aload 0 1) from rfl) rfl
theorem ii_68_11 : je X 68 11 [l0, l1, some (.inl x)] S σ = je X 68 12 [l0, l1, some (.inl x)] (.inl x :: S) σ := je_iload (show jm_fe 68 11 = some (jk_iload 2 1) from rfl) rfl
theorem ii_68_12_8 : je X 68 12 L (.inl 8 :: S) (g ++ l, z) = je X 68 14 L (.inr (.inl (some (g.length + l.length))) :: S) (g ++ (l ++ [.inr (.inl (0, 8, fun _ => 0))]), z + 8) := je_newi (show jm_fe 68 12 = some (jk_newi 0) from rfl) (by decide) (by decide) (by decide)
theorem ii_68_12_16 : je X 68 12 L (.inl 16 :: S) (g ++ l, z) = je X 68 14 L (.inr (.inl (some (g.length + l.length))) :: S) (g ++ (l ++ [.inr (.inl (0, 16, fun _ => 0))]), z + 16) := je_newi (show jm_fe 68 12 = some (jk_newi 0) from rfl) (by decide) (by decide) (by decide)
theorem ii_68_14 (hn : g.length = n) (hk : Nat.blt 0 fs.length = true) (hf : jm_fit 2 v = true) : je X 68 14 L (v :: .inr (.inl (some n)) :: S) (g ++ (.inl (6, fs) :: r), z) = je X 68 17 L S (g ++ (.inl (6, fs.set 0 v) :: r), z) := je_putf0 (show jm_fe 68 14 = some (jk_putf 6 0 2) from rfl) hn hk hf
theorem ii_68_17 : je X 68 17 [some (.inr rr), l1, l2] S σ = je X 68 18 [some (.inr rr), l1, l2] (.inr rr :: S) σ := je_aload (show jm_fe 68 17 = some (jk_aload 0 1) from rfl) rfl
theorem ii_68_18 : je X 68 18 [l0, l1, some (.inl x)] S σ = je X 68 19 [l0, l1, some (.inl x)] (.inl x :: S) σ := je_iload (show jm_fe 68 18 = some (jk_iload 2 1) from rfl) rfl
theorem ii_68_19_8 : je X 68 19 L (.inl 8 :: S) (g ++ l, z) = je X 68 21 L (.inr (.inl (some (g.length + l.length))) :: S) (g ++ (l ++ [.inr (.inl (0, 8, fun _ => 0))]), z + 8) := je_newi (show jm_fe 68 19 = some (jk_newi 0) from rfl) (by decide) (by decide) (by decide)
theorem ii_68_19_16 : je X 68 19 L (.inl 16 :: S) (g ++ l, z) = je X 68 21 L (.inr (.inl (some (g.length + l.length))) :: S) (g ++ (l ++ [.inr (.inl (0, 16, fun _ => 0))]), z + 16) := je_newi (show jm_fe 68 19 = some (jk_newi 0) from rfl) (by decide) (by decide) (by decide)
theorem ii_68_21 (hn : g.length = n) (hk : Nat.blt 1 fs.length = true) (hf : jm_fit 2 v = true) : je X 68 21 L (v :: .inr (.inl (some n)) :: S) (g ++ (.inl (6, fs) :: r), z) = je X 68 24 L S (g ++ (.inl (6, fs.set 1 v) :: r), z) := je_putf0 (show jm_fe 68 21 = some (jk_putf 6 1 2) from rfl) hn hk hf
theorem ii_68_24 : je X 68 24 [some (.inr rr), l1, l2] S σ = je X 68 25 [some (.inr rr), l1, l2] (.inr rr :: S) σ := je_aload (show jm_fe 68 24 = some (jk_aload 0 1) from rfl) rfl
theorem ii_68_25 : je X 68 25 L S σ = je X 68 26 L (.inl 0 :: S) σ := je_const (show jm_fe 68 25 = some (jk_const 0 1) from rfl)
theorem ii_68_26 (hn : g.length = n) (hk : Nat.blt 2 fs.length = true) (hf : jm_fit 0 v = true) : je X 68 26 L (v :: .inr (.inl (some n)) :: S) (g ++ (.inl (6, fs) :: r), z) = je X 68 29 L S (g ++ (.inl (6, fs.set 2 v) :: r), z) := je_putf0 (show jm_fe 68 26 = some (jk_putf 6 2 0) from rfl) hn hk hf
theorem ii_68_29 : je X 68 29 L [] σ = some (none, σ) := je_ret (show jm_fe 68 29 = some (jk_ret) from rfl)
theorem ii_86_0 : je X 86 0 [some (.inr rr)] S σ = je X 86 1 [some (.inr rr)] (.inr rr :: S) σ := je_aload (show jm_fe 86 0 = some (jk_aload 0 1) from rfl) rfl
theorem ii_86_1 (h8 : Nat.ble S.length 8 = true) : je X 86 1 L (.inr (.inl (some a)) :: S) σ = je X 86 4 L S σ := je_oinit (show jm_fe 86 1 = some (jk_oinit) from rfl) h8
theorem ii_86_4 : je X 86 4 [some (.inr rr)] S σ = je X 86 5 [some (.inr rr)] (.inr rr :: S) σ := je_aload (show jm_fe 86 4 = some (jk_aload 0 1) from rfl) rfl
theorem ii_86_5 : je X 86 5 L S σ = je X 86 7 L (.inl 100 :: S) σ := je_const (show jm_fe 86 5 = some (jk_const (100) 2) from rfl)
theorem ii_86_7 : je X 86 7 L (.inl 100 :: S) (g ++ l, z) = je X 86 9 L (.inr (.inl (some (g.length + l.length))) :: S) (g ++ (l ++ [.inr (.inl (0, 100, fun _ => 0))]), z + 100) := je_newi (show jm_fe 86 7 = some (jk_newi 0) from rfl) (by decide) (by decide) (by decide)
theorem ii_86_9 (hn : g.length = n) (hk : Nat.blt 0 fs.length = true) (hf : jm_fit 2 v = true) : je X 86 9 L (v :: .inr (.inl (some n)) :: S) (g ++ (.inl (2, fs) :: r), z) = je X 86 12 L S (g ++ (.inl (2, fs.set 0 v) :: r), z) := je_putf0 (show jm_fe 86 9 = some (jk_putf 2 0 2) from rfl) hn hk hf
theorem ii_86_12 : je X 86 12 [some (.inr rr)] S σ = je X 86 13 [some (.inr rr)] (.inr rr :: S) σ := je_aload (show jm_fe 86 12 = some (jk_aload 0 1) from rfl) rfl
theorem ii_86_13 : je X 86 13 L S σ = je X 86 15 L (.inl 100 :: S) σ := je_const (show jm_fe 86 13 = some (jk_const (100) 2) from rfl)
theorem ii_86_15 : je X 86 15 L (.inl 100 :: S) (g ++ l, z) = je X 86 17 L (.inr (.inl (some (g.length + l.length))) :: S) (g ++ (l ++ [.inr (.inl (0, 100, fun _ => 0))]), z + 100) := je_newi (show jm_fe 86 15 = some (jk_newi 0) from rfl) (by decide) (by decide) (by decide)
theorem ii_86_17 (hn : g.length = n) (hk : Nat.blt 1 fs.length = true) (hf : jm_fit 2 v = true) : je X 86 17 L (v :: .inr (.inl (some n)) :: S) (g ++ (.inl (2, fs) :: r), z) = je X 86 20 L S (g ++ (.inl (2, fs.set 1 v) :: r), z) := je_putf0 (show jm_fe 86 17 = some (jk_putf 2 1 2) from rfl) hn hk hf
theorem ii_86_20 : je X 86 20 [some (.inr rr)] S σ = je X 86 21 [some (.inr rr)] (.inr rr :: S) σ := je_aload (show jm_fe 86 20 = some (jk_aload 0 1) from rfl) rfl
theorem ii_86_21 : je X 86 21 L S σ = je X 86 22 L (.inl 4 :: S) σ := je_const (show jm_fe 86 21 = some (jk_const 4 1) from rfl)
theorem ii_86_22 : je X 86 22 L (.inl 4 :: S) (g ++ l, z) = je X 86 24 L (.inr (.inl (some (g.length + l.length))) :: S) (g ++ (l ++ [.inr (.inl (0, 4, fun _ => 0))]), z + 4) := je_newi (show jm_fe 86 22 = some (jk_newi 0) from rfl) (by decide) (by decide) (by decide)
theorem ii_86_24 (hn : g.length = n) (hk : Nat.blt 2 fs.length = true) (hf : jm_fit 2 v = true) : je X 86 24 L (v :: .inr (.inl (some n)) :: S) (g ++ (.inl (2, fs) :: r), z) = je X 86 27 L S (g ++ (.inl (2, fs.set 2 v) :: r), z) := je_putf0 (show jm_fe 86 24 = some (jk_putf 2 2 2) from rfl) hn hk hf
theorem ii_86_27 : je X 86 27 [some (.inr rr)] S σ = je X 86 28 [some (.inr rr)] (.inr rr :: S) σ := je_aload (show jm_fe 86 27 = some (jk_aload 0 1) from rfl) rfl
theorem ii_86_28 : je X 86 28 L S σ = je X 86 29 L (.inl 4 :: S) σ := je_const (show jm_fe 86 28 = some (jk_const 4 1) from rfl)
theorem ii_86_29 : je X 86 29 L (.inl 4 :: S) (g ++ l, z) = je X 86 31 L (.inr (.inl (some (g.length + l.length))) :: S) (g ++ (l ++ [.inr (.inl (0, 4, fun _ => 0))]), z + 4) := je_newi (show jm_fe 86 29 = some (jk_newi 0) from rfl) (by decide) (by decide) (by decide)
theorem ii_86_31 (hn : g.length = n) (hk : Nat.blt 3 fs.length = true) (hf : jm_fit 2 v = true) : je X 86 31 L (v :: .inr (.inl (some n)) :: S) (g ++ (.inl (2, fs) :: r), z) = je X 86 34 L S (g ++ (.inl (2, fs.set 3 v) :: r), z) := je_putf0 (show jm_fe 86 31 = some (jk_putf 2 3 2) from rfl) hn hk hf
theorem ii_86_34 : je X 86 34 [some (.inr rr)] S σ = je X 86 35 [some (.inr rr)] (.inr rr :: S) σ := je_aload (show jm_fe 86 34 = some (jk_aload 0 1) from rfl) rfl
theorem ii_86_35 : je X 86 35 L S σ = je X 86 36 L (.inl 4 :: S) σ := je_const (show jm_fe 86 35 = some (jk_const 4 1) from rfl)
theorem ii_86_36 : je X 86 36 L (.inl 4 :: S) (g ++ l, z) = je X 86 38 L (.inr (.inl (some (g.length + l.length))) :: S) (g ++ (l ++ [.inr (.inl (0, 4, fun _ => 0))]), z + 4) := je_newi (show jm_fe 86 36 = some (jk_newi 0) from rfl) (by decide) (by decide) (by decide)
theorem ii_86_38 (hn : g.length = n) (hk : Nat.blt 4 fs.length = true) (hf : jm_fit 2 v = true) : je X 86 38 L (v :: .inr (.inl (some n)) :: S) (g ++ (.inl (2, fs) :: r), z) = je X 86 41 L S (g ++ (.inl (2, fs.set 4 v) :: r), z) := je_putf0 (show jm_fe 86 38 = some (jk_putf 2 4 2) from rfl) hn hk hf
theorem ii_86_41 : je X 86 41 [some (.inr rr)] S σ = je X 86 42 [some (.inr rr)] (.inr rr :: S) σ := je_aload (show jm_fe 86 41 = some (jk_aload 0 1) from rfl) rfl
theorem ii_86_42 : je X 86 42 L S σ = je X 86 43 L (.inl 4 :: S) σ := je_const (show jm_fe 86 42 = some (jk_const 4 1) from rfl)
theorem ii_86_43 : je X 86 43 L (.inl 4 :: S) (g ++ l, z) = je X 86 45 L (.inr (.inl (some (g.length + l.length))) :: S) (g ++ (l ++ [.inr (.inl (0, 4, fun _ => 0))]), z + 4) := je_newi (show jm_fe 86 43 = some (jk_newi 0) from rfl) (by decide) (by decide) (by decide)
theorem ii_86_45 (hn : g.length = n) (hk : Nat.blt 5 fs.length = true) (hf : jm_fit 2 v = true) : je X 86 45 L (v :: .inr (.inl (some n)) :: S) (g ++ (.inl (2, fs) :: r), z) = je X 86 48 L S (g ++ (.inl (2, fs.set 5 v) :: r), z) := je_putf0 (show jm_fe 86 45 = some (jk_putf 2 5 2) from rfl) hn hk hf
theorem ii_86_48 : je X 86 48 [some (.inr rr)] S σ = je X 86 49 [some (.inr rr)] (.inr rr :: S) σ := je_aload (show jm_fe 86 48 = some (jk_aload 0 1) from rfl) rfl
theorem ii_86_49 : je X 86 49 L S σ = je X 86 50 L (.inl 4 :: S) σ := je_const (show jm_fe 86 49 = some (jk_const 4 1) from rfl)
theorem ii_86_50 : je X 86 50 L (.inl 4 :: S) (g ++ l, z) = je X 86 52 L (.inr (.inl (some (g.length + l.length))) :: S) (g ++ (l ++ [.inr (.inl (1, 4, fun _ => 0))]), z + 4) := je_newi (show jm_fe 86 50 = some (jk_newi 1) from rfl) (by decide) (by decide) (by decide)
theorem ii_86_52 (hn : g.length = n) (hk : Nat.blt 6 fs.length = true) (hf : jm_fit 2 v = true) : je X 86 52 L (v :: .inr (.inl (some n)) :: S) (g ++ (.inl (2, fs) :: r), z) = je X 86 55 L S (g ++ (.inl (2, fs.set 6 v) :: r), z) := je_putf0 (show jm_fe 86 52 = some (jk_putf 2 6 2) from rfl) hn hk hf
theorem ii_86_55 : je X 86 55 L [] σ = some (none, σ) := je_ret (show jm_fe 86 55 = some (jk_ret) from rfl)
theorem ii_64_0 : je X 64 0 [some (.inr rr)] S σ = je X 64 1 [some (.inr rr)] (.inr rr :: S) σ := je_aload (show jm_fe 64 0 = some (jk_aload 0 1) from rfl) rfl
theorem ii_64_1 (h8 : Nat.ble S.length 8 = true) : je X 64 1 L (.inr (.inl (some a)) :: S) σ = je X 64 4 L S σ := je_oinit (show jm_fe 64 1 = some (jk_oinit) from rfl) h8
theorem ii_64_4 : je X 64 4 [some (.inr rr)] S σ = je X 64 5 [some (.inr rr)] (.inr rr :: S) σ := je_aload (show jm_fe 64 4 = some (jk_aload 0 1) from rfl) rfl
theorem ii_64_5 : je X 64 5 L S σ = je X 64 7 L (.inl 64 :: S) σ := je_const (show jm_fe 64 5 = some (jk_const (64) 2) from rfl)
theorem ii_64_7 : je X 64 7 L (.inl 64 :: S) (g ++ l, z) = je X 64 9 L (.inr (.inl (some (g.length + l.length))) :: S) (g ++ (l ++ [.inr (.inl (0, 64, fun _ => 0))]), z + 64) := je_newi (show jm_fe 64 7 = some (jk_newi 0) from rfl) (by decide) (by decide) (by decide)
theorem ii_64_9 (hn : g.length = n) (hk : Nat.blt 0 fs.length = true) (hf : jm_fit 2 v = true) : je X 64 9 L (v :: .inr (.inl (some n)) :: S) (g ++ (.inl (3, fs) :: r), z) = je X 64 12 L S (g ++ (.inl (3, fs.set 0 v) :: r), z) := je_putf0 (show jm_fe 64 9 = some (jk_putf 3 0 2) from rfl) hn hk hf
theorem ii_64_12 : je X 64 12 [some (.inr rr)] S σ = je X 64 13 [some (.inr rr)] (.inr rr :: S) σ := je_aload (show jm_fe 64 12 = some (jk_aload 0 1) from rfl) rfl
theorem ii_64_13 : je X 64 13 L S σ = je X 64 14 L (.inl 0 :: S) σ := je_const (show jm_fe 64 13 = some (jk_const 0 1) from rfl)
theorem ii_64_14 (hn : g.length = n) (hk : Nat.blt 1 fs.length = true) (hf : jm_fit 0 v = true) : je X 64 14 L (v :: .inr (.inl (some n)) :: S) (g ++ (.inl (3, fs) :: r), z) = je X 64 17 L S (g ++ (.inl (3, fs.set 1 v) :: r), z) := je_putf0 (show jm_fe 64 14 = some (jk_putf 3 1 0) from rfl) hn hk hf
theorem ii_64_17 : je X 64 17 L [] σ = some (none, σ) := je_ret (show jm_fe 64 17 = some (jk_ret) from rfl)
theorem ii_97_0 : je X 97 0 [some (.inr rr)] S σ = je X 97 1 [some (.inr rr)] (.inr rr :: S) σ := je_aload (show jm_fe 97 0 = some (jk_aload 0 1) from rfl) rfl
theorem ii_97_1 (h8 : Nat.ble S.length 8 = true) : je X 97 1 L (.inr (.inl (some a)) :: S) σ = je X 97 4 L S σ := je_oinit (show jm_fe 97 1 = some (jk_oinit) from rfl) h8
theorem ii_97_4 : je X 97 4 [some (.inr rr)] S σ = je X 97 5 [some (.inr rr)] (.inr rr :: S) σ := je_aload (show jm_fe 97 4 = some (jk_aload 0 1) from rfl) rfl
theorem ii_97_5 : je X 97 5 L S σ = je X 97 8 L (.inl 320 :: S) σ := je_const (show jm_fe 97 5 = some (jk_const (320) 3) from rfl)
theorem ii_97_8 : je X 97 8 L (.inl 320 :: S) (g ++ l, z) = je X 97 10 L (.inr (.inl (some (g.length + l.length))) :: S) (g ++ (l ++ [.inr (.inl (0, 320, fun _ => 0))]), z + 320) := je_newi (show jm_fe 97 8 = some (jk_newi 0) from rfl) (by decide) (by decide) (by decide)
theorem ii_97_10 (hn : g.length = n) (hk : Nat.blt 0 fs.length = true) (hf : jm_fit 2 v = true) : je X 97 10 L (v :: .inr (.inl (some n)) :: S) (g ++ (.inl (8, fs) :: r), z) = je X 97 13 L S (g ++ (.inl (8, fs.set 0 v) :: r), z) := je_putf0 (show jm_fe 97 10 = some (jk_putf 8 0 2) from rfl) hn hk hf
theorem ii_97_13 : je X 97 13 [some (.inr rr)] S σ = je X 97 14 [some (.inr rr)] (.inr rr :: S) σ := je_aload (show jm_fe 97 13 = some (jk_aload 0 1) from rfl) rfl
theorem ii_97_14 : je X 97 14 L S σ = je X 97 15 L (.inl 0 :: S) σ := je_const (show jm_fe 97 14 = some (jk_const 0 1) from rfl)
theorem ii_97_15 (hn : g.length = n) (hk : Nat.blt 1 fs.length = true) (hf : jm_fit 0 v = true) : je X 97 15 L (v :: .inr (.inl (some n)) :: S) (g ++ (.inl (8, fs) :: r), z) = je X 97 18 L S (g ++ (.inl (8, fs.set 1 v) :: r), z) := je_putf0 (show jm_fe 97 15 = some (jk_putf 8 1 0) from rfl) hn hk hf
theorem ii_97_18 : je X 97 18 L [] σ = some (none, σ) := je_ret (show jm_fe 97 18 = some (jk_ret) from rfl)
theorem ii_105_0 : je X 105 0 [some (.inr rr)] S σ = je X 105 1 [some (.inr rr)] (.inr rr :: S) σ := je_aload (show jm_fe 105 0 = some (jk_aload 0 1) from rfl) rfl
theorem ii_105_1 (h8 : Nat.ble S.length 8 = true) : je X 105 1 L (.inr (.inl (some a)) :: S) σ = je X 105 4 L S σ := je_oinit (show jm_fe 105 1 = some (jk_oinit) from rfl) h8
theorem ii_105_4 : je X 105 4 [some (.inr rr)] S σ = je X 105 5 [some (.inr rr)] (.inr rr :: S) σ := je_aload (show jm_fe 105 4 = some (jk_aload 0 1) from rfl) rfl
theorem ii_105_5 : je X 105 5 L S σ = je X 105 8 L (.inl 1024 :: S) σ := je_const (show jm_fe 105 5 = some (jk_const (1024) 3) from rfl)
theorem ii_105_8 : je X 105 8 L (.inl 1024 :: S) (g ++ l, z) = je X 105 10 L (.inr (.inl (some (g.length + l.length))) :: S) (g ++ (l ++ [.inr (.inl (0, 1024, fun _ => 0))]), z + 1024) := je_newi (show jm_fe 105 8 = some (jk_newi 0) from rfl) (by decide) (by decide) (by decide)
theorem ii_105_10 (hn : g.length = n) (hk : Nat.blt 0 fs.length = true) (hf : jm_fit 2 v = true) : je X 105 10 L (v :: .inr (.inl (some n)) :: S) (g ++ (.inl (7, fs) :: r), z) = je X 105 13 L S (g ++ (.inl (7, fs.set 0 v) :: r), z) := je_putf0 (show jm_fe 105 10 = some (jk_putf 7 0 2) from rfl) hn hk hf
theorem ii_105_13 : je X 105 13 [some (.inr rr)] S σ = je X 105 14 [some (.inr rr)] (.inr rr :: S) σ := je_aload (show jm_fe 105 13 = some (jk_aload 0 1) from rfl) rfl
theorem ii_105_14 : je X 105 14 L S σ = je X 105 17 L (.inl 500 :: S) σ := je_const (show jm_fe 105 14 = some (jk_const (500) 3) from rfl)
theorem ii_105_17 : je X 105 17 L (.inl 500 :: S) (g ++ l, z) = je X 105 19 L (.inr (.inl (some (g.length + l.length))) :: S) (g ++ (l ++ [.inr (.inl (0, 500, fun _ => 0))]), z + 500) := je_newi (show jm_fe 105 17 = some (jk_newi 0) from rfl) (by decide) (by decide) (by decide)
theorem ii_105_19 (hn : g.length = n) (hk : Nat.blt 1 fs.length = true) (hf : jm_fit 2 v = true) : je X 105 19 L (v :: .inr (.inl (some n)) :: S) (g ++ (.inl (7, fs) :: r), z) = je X 105 22 L S (g ++ (.inl (7, fs.set 1 v) :: r), z) := je_putf0 (show jm_fe 105 19 = some (jk_putf 7 1 2) from rfl) hn hk hf
theorem ii_105_22 : je X 105 22 [some (.inr rr)] S σ = je X 105 23 [some (.inr rr)] (.inr rr :: S) σ := je_aload (show jm_fe 105 22 = some (jk_aload 0 1) from rfl) rfl
theorem ii_105_23 : je X 105 23 L S σ = je X 105 26 L (.inl 500 :: S) σ := je_const (show jm_fe 105 23 = some (jk_const (500) 3) from rfl)
theorem ii_105_26 : je X 105 26 L (.inl 500 :: S) (g ++ l, z) = je X 105 28 L (.inr (.inl (some (g.length + l.length))) :: S) (g ++ (l ++ [.inr (.inl (0, 500, fun _ => 0))]), z + 500) := je_newi (show jm_fe 105 26 = some (jk_newi 0) from rfl) (by decide) (by decide) (by decide)
theorem ii_105_28 (hn : g.length = n) (hk : Nat.blt 2 fs.length = true) (hf : jm_fit 2 v = true) : je X 105 28 L (v :: .inr (.inl (some n)) :: S) (g ++ (.inl (7, fs) :: r), z) = je X 105 31 L S (g ++ (.inl (7, fs.set 2 v) :: r), z) := je_putf0 (show jm_fe 105 28 = some (jk_putf 7 2 2) from rfl) hn hk hf
theorem ii_105_31 : je X 105 31 [some (.inr rr)] S σ = je X 105 32 [some (.inr rr)] (.inr rr :: S) σ := je_aload (show jm_fe 105 31 = some (jk_aload 0 1) from rfl) rfl
theorem ii_105_32 : je X 105 32 L S σ = je X 105 33 L (.inl 0 :: S) σ := je_const (show jm_fe 105 32 = some (jk_const 0 1) from rfl)
theorem ii_105_33 (hn : g.length = n) (hk : Nat.blt 3 fs.length = true) (hf : jm_fit 0 v = true) : je X 105 33 L (v :: .inr (.inl (some n)) :: S) (g ++ (.inl (7, fs) :: r), z) = je X 105 36 L S (g ++ (.inl (7, fs.set 3 v) :: r), z) := je_putf0 (show jm_fe 105 33 = some (jk_putf 7 3 0) from rfl) hn hk hf
theorem ii_105_36 : je X 105 36 [some (.inr rr)] S σ = je X 105 37 [some (.inr rr)] (.inr rr :: S) σ := je_aload (show jm_fe 105 36 = some (jk_aload 0 1) from rfl) rfl
theorem ii_105_37 : je X 105 37 L S σ = je X 105 38 L (.inl 0 :: S) σ := je_const (show jm_fe 105 37 = some (jk_const 0 1) from rfl)
theorem ii_105_38 (hn : g.length = n) (hk : Nat.blt 4 fs.length = true) (hf : jm_fit 0 v = true) : je X 105 38 L (v :: .inr (.inl (some n)) :: S) (g ++ (.inl (7, fs) :: r), z) = je X 105 41 L S (g ++ (.inl (7, fs.set 4 v) :: r), z) := je_putf0 (show jm_fe 105 38 = some (jk_putf 7 4 0) from rfl) hn hk hf
theorem ii_105_41 : je X 105 41 L [] σ = some (none, σ) := je_ret (show jm_fe 105 41 = some (jk_ret) from rfl)
theorem ii_19_0 : je X 19 0 [some (.inr rr)] S σ = je X 19 1 [some (.inr rr)] (.inr rr :: S) σ := je_aload (show jm_fe 19 0 = some (jk_aload 0 1) from rfl) rfl
theorem ii_19_1 (h8 : Nat.ble S.length 8 = true) : je X 19 1 L (.inr (.inl (some a)) :: S) σ = je X 19 4 L S σ := je_oinit (show jm_fe 19 1 = some (jk_oinit) from rfl) h8
theorem ii_19_4 : je X 19 4 [some (.inr rr)] S σ = je X 19 5 [some (.inr rr)] (.inr rr :: S) σ := je_aload (show jm_fe 19 4 = some (jk_aload 0 1) from rfl) rfl
theorem ii_19_5 : je X 19 5 L S σ = je X 19 7 L (.inl 8 :: S) σ := je_const (show jm_fe 19 5 = some (jk_const (8) 2) from rfl)
theorem ii_19_7 : je X 19 7 L (.inl 8 :: S) (g ++ l, z) = je X 19 9 L (.inr (.inl (some (g.length + l.length))) :: S) (g ++ (l ++ [.inr (.inl (0, 8, fun _ => 0))]), z + 8) := je_newi (show jm_fe 19 7 = some (jk_newi 0) from rfl) (by decide) (by decide) (by decide)
theorem ii_19_9 (hn : g.length = n) (hk : Nat.blt 2 fs.length = true) (hf : jm_fit 2 v = true) : je X 19 9 L (v :: .inr (.inl (some n)) :: S) (g ++ (.inl (9, fs) :: r), z) = je X 19 12 L S (g ++ (.inl (9, fs.set 2 v) :: r), z) := je_putf0 (show jm_fe 19 9 = some (jk_putf 9 2 2) from rfl) hn hk hf
theorem ii_19_12 : je X 19 12 [some (.inr rr)] S σ = je X 19 13 [some (.inr rr)] (.inr rr :: S) σ := je_aload (show jm_fe 19 12 = some (jk_aload 0 1) from rfl) rfl
theorem ii_19_13 : je X 19 13 L S σ = je X 19 15 L (.inl 8 :: S) σ := je_const (show jm_fe 19 13 = some (jk_const (8) 2) from rfl)
theorem ii_19_15 : je X 19 15 L (.inl 8 :: S) (g ++ l, z) = je X 19 17 L (.inr (.inl (some (g.length + l.length))) :: S) (g ++ (l ++ [.inr (.inl (0, 8, fun _ => 0))]), z + 8) := je_newi (show jm_fe 19 15 = some (jk_newi 0) from rfl) (by decide) (by decide) (by decide)
theorem ii_19_17 (hn : g.length = n) (hk : Nat.blt 3 fs.length = true) (hf : jm_fit 2 v = true) : je X 19 17 L (v :: .inr (.inl (some n)) :: S) (g ++ (.inl (9, fs) :: r), z) = je X 19 20 L S (g ++ (.inl (9, fs.set 3 v) :: r), z) := je_putf0 (show jm_fe 19 17 = some (jk_putf 9 3 2) from rfl) hn hk hf
theorem ii_19_20 : je X 19 20 [some (.inr rr)] S σ = je X 19 21 [some (.inr rr)] (.inr rr :: S) σ := je_aload (show jm_fe 19 20 = some (jk_aload 0 1) from rfl) rfl
theorem ii_19_21 : je X 19 21 L S σ = je X 19 23 L (.inl 8 :: S) σ := je_const (show jm_fe 19 21 = some (jk_const (8) 2) from rfl)
theorem ii_19_23 : je X 19 23 L (.inl 8 :: S) (g ++ l, z) = je X 19 25 L (.inr (.inl (some (g.length + l.length))) :: S) (g ++ (l ++ [.inr (.inl (0, 8, fun _ => 0))]), z + 8) := je_newi (show jm_fe 19 23 = some (jk_newi 0) from rfl) (by decide) (by decide) (by decide)
theorem ii_19_25 (hn : g.length = n) (hk : Nat.blt 4 fs.length = true) (hf : jm_fit 2 v = true) : je X 19 25 L (v :: .inr (.inl (some n)) :: S) (g ++ (.inl (9, fs) :: r), z) = je X 19 28 L S (g ++ (.inl (9, fs.set 4 v) :: r), z) := je_putf0 (show jm_fe 19 25 = some (jk_putf 9 4 2) from rfl) hn hk hf
theorem ii_19_28 : je X 19 28 [some (.inr rr)] S σ = je X 19 29 [some (.inr rr)] (.inr rr :: S) σ := je_aload (show jm_fe 19 28 = some (jk_aload 0 1) from rfl) rfl
theorem ii_19_29 : je X 19 29 L S σ = je X 19 31 L (.inl 8 :: S) σ := je_const (show jm_fe 19 29 = some (jk_const (8) 2) from rfl)
theorem ii_19_31 : je X 19 31 L (.inl 8 :: S) (g ++ l, z) = je X 19 33 L (.inr (.inl (some (g.length + l.length))) :: S) (g ++ (l ++ [.inr (.inl (0, 8, fun _ => 0))]), z + 8) := je_newi (show jm_fe 19 31 = some (jk_newi 0) from rfl) (by decide) (by decide) (by decide)
theorem ii_19_33 (hn : g.length = n) (hk : Nat.blt 5 fs.length = true) (hf : jm_fit 2 v = true) : je X 19 33 L (v :: .inr (.inl (some n)) :: S) (g ++ (.inl (9, fs) :: r), z) = je X 19 36 L S (g ++ (.inl (9, fs.set 5 v) :: r), z) := je_putf0 (show jm_fe 19 33 = some (jk_putf 9 5 2) from rfl) hn hk hf
theorem ii_19_36 : je X 19 36 [some (.inr rr)] S σ = je X 19 37 [some (.inr rr)] (.inr rr :: S) σ := je_aload (show jm_fe 19 36 = some (jk_aload 0 1) from rfl) rfl
theorem ii_19_37 : je X 19 37 L S σ = je X 19 40 L (.inl 800 :: S) σ := je_const (show jm_fe 19 37 = some (jk_const (800) 3) from rfl)
theorem ii_19_40 : je X 19 40 L (.inl 800 :: S) (g ++ l, z) = je X 19 42 L (.inr (.inl (some (g.length + l.length))) :: S) (g ++ (l ++ [.inr (.inl (0, 800, fun _ => 0))]), z + 800) := je_newi (show jm_fe 19 40 = some (jk_newi 0) from rfl) (by decide) (by decide) (by decide)
theorem ii_19_42 (hn : g.length = n) (hk : Nat.blt 6 fs.length = true) (hf : jm_fit 2 v = true) : je X 19 42 L (v :: .inr (.inl (some n)) :: S) (g ++ (.inl (9, fs) :: r), z) = je X 19 45 L S (g ++ (.inl (9, fs.set 6 v) :: r), z) := je_putf0 (show jm_fe 19 42 = some (jk_putf 9 6 2) from rfl) hn hk hf
theorem ii_19_45 : je X 19 45 [some (.inr rr)] S σ = je X 19 46 [some (.inr rr)] (.inr rr :: S) σ := je_aload (show jm_fe 19 45 = some (jk_aload 0 1) from rfl) rfl
theorem ii_19_46 : je X 19 46 L S σ = je X 19 49 L (.inl 800 :: S) σ := je_const (show jm_fe 19 46 = some (jk_const (800) 3) from rfl)
theorem ii_19_49 : je X 19 49 L (.inl 800 :: S) (g ++ l, z) = je X 19 51 L (.inr (.inl (some (g.length + l.length))) :: S) (g ++ (l ++ [.inr (.inl (0, 800, fun _ => 0))]), z + 800) := je_newi (show jm_fe 19 49 = some (jk_newi 0) from rfl) (by decide) (by decide) (by decide)
theorem ii_19_51 (hn : g.length = n) (hk : Nat.blt 7 fs.length = true) (hf : jm_fit 2 v = true) : je X 19 51 L (v :: .inr (.inl (some n)) :: S) (g ++ (.inl (9, fs) :: r), z) = je X 19 54 L S (g ++ (.inl (9, fs.set 7 v) :: r), z) := je_putf0 (show jm_fe 19 51 = some (jk_putf 9 7 2) from rfl) hn hk hf
theorem ii_19_54 : je X 19 54 [some (.inr rr)] S σ = je X 19 55 [some (.inr rr)] (.inr rr :: S) σ := je_aload (show jm_fe 19 54 = some (jk_aload 0 1) from rfl) rfl
theorem ii_19_55 : je X 19 55 L S σ = je X 19 57 L (.inl 8 :: S) σ := je_const (show jm_fe 19 55 = some (jk_const (8) 2) from rfl)
theorem ii_19_57 : je X 19 57 L (.inl 8 :: S) (g ++ l, z) = je X 19 59 L (.inr (.inl (some (g.length + l.length))) :: S) (g ++ (l ++ [.inr (.inl (0, 8, fun _ => 0))]), z + 8) := je_newi (show jm_fe 19 57 = some (jk_newi 0) from rfl) (by decide) (by decide) (by decide)
theorem ii_19_59 (hn : g.length = n) (hk : Nat.blt 8 fs.length = true) (hf : jm_fit 2 v = true) : je X 19 59 L (v :: .inr (.inl (some n)) :: S) (g ++ (.inl (9, fs) :: r), z) = je X 19 62 L S (g ++ (.inl (9, fs.set 8 v) :: r), z) := je_putf0 (show jm_fe 19 59 = some (jk_putf 9 8 2) from rfl) hn hk hf
theorem ii_19_62 : je X 19 62 [some (.inr rr)] S σ = je X 19 63 [some (.inr rr)] (.inr rr :: S) σ := je_aload (show jm_fe 19 62 = some (jk_aload 0 1) from rfl) rfl
theorem ii_19_63 : je X 19 63 L S σ = je X 19 65 L (.inl 32 :: S) σ := je_const (show jm_fe 19 63 = some (jk_const (32) 2) from rfl)
theorem ii_19_65 : je X 19 65 L (.inl 32 :: S) (g ++ l, z) = je X 19 67 L (.inr (.inl (some (g.length + l.length))) :: S) (g ++ (l ++ [.inr (.inl (0, 32, fun _ => 0))]), z + 32) := je_newi (show jm_fe 19 65 = some (jk_newi 0) from rfl) (by decide) (by decide) (by decide)
theorem ii_19_67 (hn : g.length = n) (hk : Nat.blt 9 fs.length = true) (hf : jm_fit 2 v = true) : je X 19 67 L (v :: .inr (.inl (some n)) :: S) (g ++ (.inl (9, fs) :: r), z) = je X 19 70 L S (g ++ (.inl (9, fs.set 9 v) :: r), z) := je_putf0 (show jm_fe 19 67 = some (jk_putf 9 9 2) from rfl) hn hk hf
theorem ii_19_70 : je X 19 70 [some (.inr rr)] S σ = je X 19 71 [some (.inr rr)] (.inr rr :: S) σ := je_aload (show jm_fe 19 70 = some (jk_aload 0 1) from rfl) rfl
theorem ii_19_71 : je X 19 71 L S σ = je X 19 73 L (.inl 32 :: S) σ := je_const (show jm_fe 19 71 = some (jk_const (32) 2) from rfl)
theorem ii_19_73 : je X 19 73 L (.inl 32 :: S) (g ++ l, z) = je X 19 75 L (.inr (.inl (some (g.length + l.length))) :: S) (g ++ (l ++ [.inr (.inl (0, 32, fun _ => 0))]), z + 32) := je_newi (show jm_fe 19 73 = some (jk_newi 0) from rfl) (by decide) (by decide) (by decide)
theorem ii_19_75 (hn : g.length = n) (hk : Nat.blt 10 fs.length = true) (hf : jm_fit 2 v = true) : je X 19 75 L (v :: .inr (.inl (some n)) :: S) (g ++ (.inl (9, fs) :: r), z) = je X 19 78 L S (g ++ (.inl (9, fs.set 10 v) :: r), z) := je_putf0 (show jm_fe 19 75 = some (jk_putf 9 10 2) from rfl) hn hk hf
theorem ii_19_78 : je X 19 78 [some (.inr rr)] S σ = je X 19 79 [some (.inr rr)] (.inr rr :: S) σ := je_aload (show jm_fe 19 78 = some (jk_aload 0 1) from rfl) rfl
theorem ii_19_79 : je X 19 79 L S σ = je X 19 81 L (.inl 32 :: S) σ := je_const (show jm_fe 19 79 = some (jk_const (32) 2) from rfl)
theorem ii_19_81 : je X 19 81 L (.inl 32 :: S) (g ++ l, z) = je X 19 83 L (.inr (.inl (some (g.length + l.length))) :: S) (g ++ (l ++ [.inr (.inl (0, 32, fun _ => 0))]), z + 32) := je_newi (show jm_fe 19 81 = some (jk_newi 0) from rfl) (by decide) (by decide) (by decide)
theorem ii_19_83 (hn : g.length = n) (hk : Nat.blt 11 fs.length = true) (hf : jm_fit 2 v = true) : je X 19 83 L (v :: .inr (.inl (some n)) :: S) (g ++ (.inl (9, fs) :: r), z) = je X 19 86 L S (g ++ (.inl (9, fs.set 11 v) :: r), z) := je_putf0 (show jm_fe 19 83 = some (jk_putf 9 11 2) from rfl) hn hk hf
theorem ii_19_86 : je X 19 86 [some (.inr rr)] S σ = je X 19 87 [some (.inr rr)] (.inr rr :: S) σ := je_aload (show jm_fe 19 86 = some (jk_aload 0 1) from rfl) rfl
theorem ii_19_87 : je X 19 87 L S σ = je X 19 89 L (.inl 32 :: S) σ := je_const (show jm_fe 19 87 = some (jk_const (32) 2) from rfl)
theorem ii_19_89 : je X 19 89 L (.inl 32 :: S) (g ++ l, z) = je X 19 91 L (.inr (.inl (some (g.length + l.length))) :: S) (g ++ (l ++ [.inr (.inl (1, 32, fun _ => 0))]), z + 32) := je_newi (show jm_fe 19 89 = some (jk_newi 1) from rfl) (by decide) (by decide) (by decide)
theorem ii_19_91 (hn : g.length = n) (hk : Nat.blt 12 fs.length = true) (hf : jm_fit 2 v = true) : je X 19 91 L (v :: .inr (.inl (some n)) :: S) (g ++ (.inl (9, fs) :: r), z) = je X 19 94 L S (g ++ (.inl (9, fs.set 12 v) :: r), z) := je_putf0 (show jm_fe 19 91 = some (jk_putf 9 12 2) from rfl) hn hk hf
theorem ii_19_94 : je X 19 94 [some (.inr rr)] S σ = je X 19 95 [some (.inr rr)] (.inr rr :: S) σ := je_aload (show jm_fe 19 94 = some (jk_aload 0 1) from rfl) rfl
theorem ii_19_95 : je X 19 95 L S σ = je X 19 97 L (.inl 32 :: S) σ := je_const (show jm_fe 19 95 = some (jk_const (32) 2) from rfl)
theorem ii_19_97 : je X 19 97 L (.inl 32 :: S) (g ++ l, z) = je X 19 99 L (.inr (.inl (some (g.length + l.length))) :: S) (g ++ (l ++ [.inr (.inl (0, 32, fun _ => 0))]), z + 32) := je_newi (show jm_fe 19 97 = some (jk_newi 0) from rfl) (by decide) (by decide) (by decide)
theorem ii_19_99 (hn : g.length = n) (hk : Nat.blt 13 fs.length = true) (hf : jm_fit 2 v = true) : je X 19 99 L (v :: .inr (.inl (some n)) :: S) (g ++ (.inl (9, fs) :: r), z) = je X 19 102 L S (g ++ (.inl (9, fs.set 13 v) :: r), z) := je_putf0 (show jm_fe 19 99 = some (jk_putf 9 13 2) from rfl) hn hk hf
theorem ii_19_102 : je X 19 102 [some (.inr rr)] S σ = je X 19 103 [some (.inr rr)] (.inr rr :: S) σ := je_aload (show jm_fe 19 102 = some (jk_aload 0 1) from rfl) rfl
theorem ii_19_103 : je X 19 103 L S σ = je X 19 105 L (.inl 64 :: S) σ := je_const (show jm_fe 19 103 = some (jk_const (64) 2) from rfl)
theorem ii_19_105 : je X 19 105 L (.inl 64 :: S) (g ++ l, z) = je X 19 107 L (.inr (.inl (some (g.length + l.length))) :: S) (g ++ (l ++ [.inr (.inl (0, 64, fun _ => 0))]), z + 64) := je_newi (show jm_fe 19 105 = some (jk_newi 0) from rfl) (by decide) (by decide) (by decide)
theorem ii_19_107 (hn : g.length = n) (hk : Nat.blt 14 fs.length = true) (hf : jm_fit 2 v = true) : je X 19 107 L (v :: .inr (.inl (some n)) :: S) (g ++ (.inl (9, fs) :: r), z) = je X 19 110 L S (g ++ (.inl (9, fs.set 14 v) :: r), z) := je_putf0 (show jm_fe 19 107 = some (jk_putf 9 14 2) from rfl) hn hk hf
theorem ii_19_110 : je X 19 110 [some (.inr rr)] S σ = je X 19 111 [some (.inr rr)] (.inr rr :: S) σ := je_aload (show jm_fe 19 110 = some (jk_aload 0 1) from rfl) rfl
theorem ii_19_111 : je X 19 111 L S σ = je X 19 112 L (.inl (-1) :: S) σ := je_const (show jm_fe 19 111 = some (jk_const (-1) 1) from rfl)
theorem ii_19_112 (hn : g.length = n) (hk : Nat.blt 17 fs.length = true) (hf : jm_fit 0 v = true) : je X 19 112 L (v :: .inr (.inl (some n)) :: S) (g ++ (.inl (9, fs) :: r), z) = je X 19 115 L S (g ++ (.inl (9, fs.set 17 v) :: r), z) := je_putf0 (show jm_fe 19 112 = some (jk_putf 9 17 0) from rfl) hn hk hf
theorem ii_19_115 : je X 19 115 [some (.inr rr)] S σ = je X 19 116 [some (.inr rr)] (.inr rr :: S) σ := je_aload (show jm_fe 19 115 = some (jk_aload 0 1) from rfl) rfl
theorem ii_19_116 : je X 19 116 L S σ = je X 19 118 L (.inl 20 :: S) σ := je_const (show jm_fe 19 116 = some (jk_const (20) 2) from rfl)
theorem ii_19_118 : je X 19 118 L (.inl 20 :: S) (g ++ l, z) = je X 19 120 L (.inr (.inl (some (g.length + l.length))) :: S) (g ++ (l ++ [.inr (.inl (0, 20, fun _ => 0))]), z + 20) := je_newi (show jm_fe 19 118 = some (jk_newi 0) from rfl) (by decide) (by decide) (by decide)
theorem ii_19_120 (hn : g.length = n) (hk : Nat.blt 23 fs.length = true) (hf : jm_fit 2 v = true) : je X 19 120 L (v :: .inr (.inl (some n)) :: S) (g ++ (.inl (9, fs) :: r), z) = je X 19 123 L S (g ++ (.inl (9, fs.set 23 v) :: r), z) := je_putf0 (show jm_fe 19 120 = some (jk_putf 9 23 2) from rfl) hn hk hf
theorem ii_19_123 : je X 19 123 [some (.inr rr)] S σ = je X 19 124 [some (.inr rr)] (.inr rr :: S) σ := je_aload (show jm_fe 19 123 = some (jk_aload 0 1) from rfl) rfl
theorem ii_19_124 : je X 19 124 L S σ = je X 19 126 L (.inl 20 :: S) σ := je_const (show jm_fe 19 124 = some (jk_const (20) 2) from rfl)
theorem ii_19_126 : je X 19 126 L (.inl 20 :: S) (g ++ l, z) = je X 19 128 L (.inr (.inl (some (g.length + l.length))) :: S) (g ++ (l ++ [.inr (.inl (0, 20, fun _ => 0))]), z + 20) := je_newi (show jm_fe 19 126 = some (jk_newi 0) from rfl) (by decide) (by decide) (by decide)
theorem ii_19_128 (hn : g.length = n) (hk : Nat.blt 24 fs.length = true) (hf : jm_fit 2 v = true) : je X 19 128 L (v :: .inr (.inl (some n)) :: S) (g ++ (.inl (9, fs) :: r), z) = je X 19 131 L S (g ++ (.inl (9, fs.set 24 v) :: r), z) := je_putf0 (show jm_fe 19 128 = some (jk_putf 9 24 2) from rfl) hn hk hf
theorem ii_19_131 : je X 19 131 [some (.inr rr)] S σ = je X 19 132 [some (.inr rr)] (.inr rr :: S) σ := je_aload (show jm_fe 19 131 = some (jk_aload 0 1) from rfl) rfl
theorem ii_19_132 : je X 19 132 L S σ = je X 19 134 L (.inl 20 :: S) σ := je_const (show jm_fe 19 132 = some (jk_const (20) 2) from rfl)
theorem ii_19_134 : je X 19 134 L (.inl 20 :: S) (g ++ l, z) = je X 19 136 L (.inr (.inl (some (g.length + l.length))) :: S) (g ++ (l ++ [.inr (.inl (0, 20, fun _ => 0))]), z + 20) := je_newi (show jm_fe 19 134 = some (jk_newi 0) from rfl) (by decide) (by decide) (by decide)
theorem ii_19_136 (hn : g.length = n) (hk : Nat.blt 25 fs.length = true) (hf : jm_fit 2 v = true) : je X 19 136 L (v :: .inr (.inl (some n)) :: S) (g ++ (.inl (9, fs) :: r), z) = je X 19 139 L S (g ++ (.inl (9, fs.set 25 v) :: r), z) := je_putf0 (show jm_fe 19 136 = some (jk_putf 9 25 2) from rfl) hn hk hf
theorem ii_19_139 : je X 19 139 [some (.inr rr)] S σ = je X 19 140 [some (.inr rr)] (.inr rr :: S) σ := je_aload (show jm_fe 19 139 = some (jk_aload 0 1) from rfl) rfl
theorem ii_19_140 : je X 19 140 L S σ = je X 19 143 L (.inl 320 :: S) σ := je_const (show jm_fe 19 140 = some (jk_const (320) 3) from rfl)
theorem ii_19_143 : je X 19 143 L (.inl 320 :: S) (g ++ l, z) = je X 19 145 L (.inr (.inl (some (g.length + l.length))) :: S) (g ++ (l ++ [.inr (.inl (0, 320, fun _ => 0))]), z + 320) := je_newi (show jm_fe 19 143 = some (jk_newi 0) from rfl) (by decide) (by decide) (by decide)
theorem ii_19_145 (hn : g.length = n) (hk : Nat.blt 26 fs.length = true) (hf : jm_fit 2 v = true) : je X 19 145 L (v :: .inr (.inl (some n)) :: S) (g ++ (.inl (9, fs) :: r), z) = je X 19 148 L S (g ++ (.inl (9, fs.set 26 v) :: r), z) := je_putf0 (show jm_fe 19 145 = some (jk_putf 9 26 2) from rfl) hn hk hf
theorem ii_19_148 : je X 19 148 [some (.inr rr)] S σ = je X 19 149 [some (.inr rr)] (.inr rr :: S) σ := je_aload (show jm_fe 19 148 = some (jk_aload 0 1) from rfl) rfl
theorem ii_19_149 : je X 19 149 L S σ = je X 19 152 L (.inl 320 :: S) σ := je_const (show jm_fe 19 149 = some (jk_const (320) 3) from rfl)
theorem ii_19_152 : je X 19 152 L (.inl 320 :: S) (g ++ l, z) = je X 19 154 L (.inr (.inl (some (g.length + l.length))) :: S) (g ++ (l ++ [.inr (.inl (0, 320, fun _ => 0))]), z + 320) := je_newi (show jm_fe 19 152 = some (jk_newi 0) from rfl) (by decide) (by decide) (by decide)
theorem ii_19_154 (hn : g.length = n) (hk : Nat.blt 27 fs.length = true) (hf : jm_fit 2 v = true) : je X 19 154 L (v :: .inr (.inl (some n)) :: S) (g ++ (.inl (9, fs) :: r), z) = je X 19 157 L S (g ++ (.inl (9, fs.set 27 v) :: r), z) := je_putf0 (show jm_fe 19 154 = some (jk_putf 9 27 2) from rfl) hn hk hf
theorem ii_19_157 : je X 19 157 [some (.inr rr)] S σ = je X 19 158 [some (.inr rr)] (.inr rr :: S) σ := je_aload (show jm_fe 19 157 = some (jk_aload 0 1) from rfl) rfl
theorem ii_19_158 : je X 19 158 L S σ = je X 19 161 L (.inl 160 :: S) σ := je_const (show jm_fe 19 158 = some (jk_const (160) 3) from rfl)
theorem ii_19_161 : je X 19 161 L (.inl 160 :: S) (g ++ l, z) = je X 19 163 L (.inr (.inl (some (g.length + l.length))) :: S) (g ++ (l ++ [.inr (.inl (0, 160, fun _ => 0))]), z + 160) := je_newi (show jm_fe 19 161 = some (jk_newi 0) from rfl) (by decide) (by decide) (by decide)
theorem ii_19_163 (hn : g.length = n) (hk : Nat.blt 28 fs.length = true) (hf : jm_fit 2 v = true) : je X 19 163 L (v :: .inr (.inl (some n)) :: S) (g ++ (.inl (9, fs) :: r), z) = je X 19 166 L S (g ++ (.inl (9, fs.set 28 v) :: r), z) := je_putf0 (show jm_fe 19 163 = some (jk_putf 9 28 2) from rfl) hn hk hf
theorem ii_19_166 : je X 19 166 [some (.inr rr)] S σ = je X 19 167 [some (.inr rr)] (.inr rr :: S) σ := je_aload (show jm_fe 19 166 = some (jk_aload 0 1) from rfl) rfl
theorem ii_19_167 : je X 19 167 L S σ = je X 19 170 L (.inl 160 :: S) σ := je_const (show jm_fe 19 167 = some (jk_const (160) 3) from rfl)
theorem ii_19_170 : je X 19 170 L (.inl 160 :: S) (g ++ l, z) = je X 19 172 L (.inr (.inl (some (g.length + l.length))) :: S) (g ++ (l ++ [.inr (.inl (0, 160, fun _ => 0))]), z + 160) := je_newi (show jm_fe 19 170 = some (jk_newi 0) from rfl) (by decide) (by decide) (by decide)
theorem ii_19_172 (hn : g.length = n) (hk : Nat.blt 29 fs.length = true) (hf : jm_fit 2 v = true) : je X 19 172 L (v :: .inr (.inl (some n)) :: S) (g ++ (.inl (9, fs) :: r), z) = je X 19 175 L S (g ++ (.inl (9, fs.set 29 v) :: r), z) := je_putf0 (show jm_fe 19 172 = some (jk_putf 9 29 2) from rfl) hn hk hf
theorem ii_19_175 : je X 19 175 [some (.inr rr)] S σ = je X 19 176 [some (.inr rr)] (.inr rr :: S) σ := je_aload (show jm_fe 19 175 = some (jk_aload 0 1) from rfl) rfl
theorem ii_19_176 : je X 19 176 L S σ = je X 19 179 L (.inl 501 :: S) σ := je_const (show jm_fe 19 176 = some (jk_const (501) 3) from rfl)
theorem ii_19_179 : je X 19 179 L (.inl 501 :: S) (g ++ l, z) = je X 19 181 L (.inr (.inl (some (g.length + l.length))) :: S) (g ++ (l ++ [.inr (.inl (0, 501, fun _ => 0))]), z + 501) := je_newi (show jm_fe 19 179 = some (jk_newi 0) from rfl) (by decide) (by decide) (by decide)
theorem ii_19_181 (hn : g.length = n) (hk : Nat.blt 32 fs.length = true) (hf : jm_fit 2 v = true) : je X 19 181 L (v :: .inr (.inl (some n)) :: S) (g ++ (.inl (9, fs) :: r), z) = je X 19 184 L S (g ++ (.inl (9, fs.set 32 v) :: r), z) := je_putf0 (show jm_fe 19 181 = some (jk_putf 9 32 2) from rfl) hn hk hf
theorem ii_19_184 : je X 19 184 [some (.inr rr)] S σ = je X 19 185 [some (.inr rr)] (.inr rr :: S) σ := je_aload (show jm_fe 19 184 = some (jk_aload 0 1) from rfl) rfl
theorem ii_19_185 : je X 19 185 L S σ = je X 19 188 L (.inl 501 :: S) σ := je_const (show jm_fe 19 185 = some (jk_const (501) 3) from rfl)
theorem ii_19_188 : je X 19 188 L (.inl 501 :: S) (g ++ l, z) = je X 19 190 L (.inr (.inl (some (g.length + l.length))) :: S) (g ++ (l ++ [.inr (.inl (0, 501, fun _ => 0))]), z + 501) := je_newi (show jm_fe 19 188 = some (jk_newi 0) from rfl) (by decide) (by decide) (by decide)
theorem ii_19_190 (hn : g.length = n) (hk : Nat.blt 33 fs.length = true) (hf : jm_fit 2 v = true) : je X 19 190 L (v :: .inr (.inl (some n)) :: S) (g ++ (.inl (9, fs) :: r), z) = je X 19 193 L S (g ++ (.inl (9, fs.set 33 v) :: r), z) := je_putf0 (show jm_fe 19 190 = some (jk_putf 9 33 2) from rfl) hn hk hf
theorem ii_19_193 : je X 19 193 [some (.inr rr)] S σ = je X 19 194 [some (.inr rr)] (.inr rr :: S) σ := je_aload (show jm_fe 19 193 = some (jk_aload 0 1) from rfl) rfl
theorem ii_19_194 : je X 19 194 L S σ = je X 19 197 L (.inl 1024 :: S) σ := je_const (show jm_fe 19 194 = some (jk_const (1024) 3) from rfl)
theorem ii_19_197 : je X 19 197 L (.inl 1024 :: S) (g ++ l, z) = je X 19 199 L (.inr (.inl (some (g.length + l.length))) :: S) (g ++ (l ++ [.inr (.inl (0, 1024, fun _ => 0))]), z + 1024) := je_newi (show jm_fe 19 197 = some (jk_newi 0) from rfl) (by decide) (by decide) (by decide)
theorem ii_19_199 (hn : g.length = n) (hk : Nat.blt 34 fs.length = true) (hf : jm_fit 2 v = true) : je X 19 199 L (v :: .inr (.inl (some n)) :: S) (g ++ (.inl (9, fs) :: r), z) = je X 19 202 L S (g ++ (.inl (9, fs.set 34 v) :: r), z) := je_putf0 (show jm_fe 19 199 = some (jk_putf 9 34 2) from rfl) hn hk hf
theorem ii_19_202 : je X 19 202 [some (.inr rr)] S σ = je X 19 203 [some (.inr rr)] (.inr rr :: S) σ := je_aload (show jm_fe 19 202 = some (jk_aload 0 1) from rfl) rfl
theorem ii_19_203 : je X 19 203 L S σ = je X 19 206 L (.inl 320 :: S) σ := je_const (show jm_fe 19 203 = some (jk_const (320) 3) from rfl)
theorem ii_19_206 : je X 19 206 L (.inl 320 :: S) (g ++ l, z) = je X 19 208 L (.inr (.inl (some (g.length + l.length))) :: S) (g ++ (l ++ [.inr (.inl (0, 320, fun _ => 0))]), z + 320) := je_newi (show jm_fe 19 206 = some (jk_newi 0) from rfl) (by decide) (by decide) (by decide)
theorem ii_19_208 (hn : g.length = n) (hk : Nat.blt 35 fs.length = true) (hf : jm_fit 2 v = true) : je X 19 208 L (v :: .inr (.inl (some n)) :: S) (g ++ (.inl (9, fs) :: r), z) = je X 19 211 L S (g ++ (.inl (9, fs.set 35 v) :: r), z) := je_putf0 (show jm_fe 19 208 = some (jk_putf 9 35 2) from rfl) hn hk hf
theorem ii_19_211 : je X 19 211 L [] σ = some (none, σ) := je_ret (show jm_fe 19 211 = some (jk_ret) from rfl)
theorem ii_82_0 : je X 82 0 [some (.inr rr)] S σ = je X 82 1 [some (.inr rr)] (.inr rr :: S) σ := je_aload (show jm_fe 82 0 = some (jk_aload 0 1) from rfl) rfl
theorem ii_82_1 (h8 : Nat.ble S.length 8 = true) : je X 82 1 L (.inr (.inl (some a)) :: S) σ = je X 82 4 L S σ := je_oinit (show jm_fe 82 1 = some (jk_oinit) from rfl) h8
theorem ii_82_4 : je X 82 4 [some (.inr rr)] S σ = je X 82 5 [some (.inr rr)] (.inr rr :: S) σ := je_aload (show jm_fe 82 4 = some (jk_aload 0 1) from rfl) rfl
theorem ii_82_5 : je X 82 5 L S (g ++ l, z) = je X 82 8 L (.inr (.inl (some (g.length + l.length))) :: S) (g ++ (l ++ [.inl (6, jc_new6)]), z + 3) := je_new (show jm_fe 82 5 = some (jk_new 6 jc_new6) from rfl) rfl
theorem ii_82_8 : je X 82 8 L (v :: S) σ = je X 82 9 L (v :: v :: S) σ := je_dup (show jm_fe 82 8 = some (jk_dup) from rfl)
theorem ii_82_9 : je X 82 9 L S σ = je X 82 11 L (.inl 16 :: S) σ := je_const (show jm_fe 82 9 = some (jk_const (16) 2) from rfl)
theorem ii_82_11 (h8 : Nat.ble S.length 8 = true) : je X 82 11 L (v0 :: .inr (.inl (some a)) :: S) σ = je_c X 82 14 L S (je X 68 0 [some (.inr (.inl (some a))), some v0, none] [] σ) := je_callI (as := [v0]) (S' := S) (show jm_fe 82 11 = some (jk_callI 68 1) from rfl) rfl (Nat.le_of_ble_eq_true h8)
theorem ii_82_14 (hn : g.length = n) (hk : Nat.blt 0 fs.length = true) (hf : jm_fit 2 v = true) : je X 82 14 L (v :: .inr (.inl (some n)) :: S) (g ++ (.inl (5, fs) :: r), z) = je X 82 17 L S (g ++ (.inl (5, fs.set 0 v) :: r), z) := je_putf0 (show jm_fe 82 14 = some (jk_putf 5 0 2) from rfl) hn hk hf
theorem ii_82_17 : je X 82 17 [some (.inr rr)] S σ = je X 82 18 [some (.inr rr)] (.inr rr :: S) σ := je_aload (show jm_fe 82 17 = some (jk_aload 0 1) from rfl) rfl
theorem ii_82_18 : je X 82 18 L S (g ++ l, z) = je X 82 21 L (.inr (.inl (some (g.length + l.length))) :: S) (g ++ (l ++ [.inl (6, jc_new6)]), z + 3) := je_new (show jm_fe 82 18 = some (jk_new 6 jc_new6) from rfl) rfl
theorem ii_82_21 : je X 82 21 L (v :: S) σ = je X 82 22 L (v :: v :: S) σ := je_dup (show jm_fe 82 21 = some (jk_dup) from rfl)
theorem ii_82_22 : je X 82 22 L S σ = je X 82 24 L (.inl 8 :: S) σ := je_const (show jm_fe 82 22 = some (jk_const (8) 2) from rfl)
theorem ii_82_24 (h8 : Nat.ble S.length 8 = true) : je X 82 24 L (v0 :: .inr (.inl (some a)) :: S) σ = je_c X 82 27 L S (je X 68 0 [some (.inr (.inl (some a))), some v0, none] [] σ) := je_callI (as := [v0]) (S' := S) (show jm_fe 82 24 = some (jk_callI 68 1) from rfl) rfl (Nat.le_of_ble_eq_true h8)
theorem ii_82_27 (hn : g.length = n) (hk : Nat.blt 1 fs.length = true) (hf : jm_fit 2 v = true) : je X 82 27 L (v :: .inr (.inl (some n)) :: S) (g ++ (.inl (5, fs) :: r), z) = je X 82 30 L S (g ++ (.inl (5, fs.set 1 v) :: r), z) := je_putf0 (show jm_fe 82 27 = some (jk_putf 5 1 2) from rfl) hn hk hf
theorem ii_82_30 : je X 82 30 L [] σ = some (none, σ) := je_ret (show jm_fe 82 30 = some (jk_ret) from rfl)
theorem ii_101_0 : je X 101 0 [some (.inr rr), l1] S σ = je X 101 1 [some (.inr rr), l1] (.inr rr :: S) σ := je_aload (show jm_fe 101 0 = some (jk_aload 0 1) from rfl) rfl
theorem ii_101_1 (h8 : Nat.ble S.length 8 = true) : je X 101 1 L (.inr (.inl (some a)) :: S) σ = je X 101 4 L S σ := je_oinit (show jm_fe 101 1 = some (jk_oinit) from rfl) h8
theorem ii_101_4 : je X 101 4 [some (.inr rr), l1] S σ = je X 101 5 [some (.inr rr), l1] (.inr rr :: S) σ := je_aload (show jm_fe 101 4 = some (jk_aload 0 1) from rfl) rfl
theorem ii_101_5 : je X 101 5 L S σ = je X 101 7 L (.inl 8 :: S) σ := je_const (show jm_fe 101 5 = some (jk_const (8) 2) from rfl)
theorem ii_101_7 : je X 101 7 L (.inl 8 :: S) (g ++ l, z) = je X 101 10 L (.inr (.inl (some (g.length + l.length))) :: S) (g ++ (l ++ [.inr (.inr (2, List.replicate 8 none))]), z + 8) := je_newq (show jm_fe 101 7 = some (jk_newq 2) from rfl) (by decide) (by decide) (by decide)
theorem ii_101_10 (hn : g.length = n) (hk : Nat.blt 0 fs.length = true) (hf : jm_fit 2 v = true) : je X 101 10 L (v :: .inr (.inl (some n)) :: S) (g ++ (.inl (1, fs) :: r), z) = je X 101 13 L S (g ++ (.inl (1, fs.set 0 v) :: r), z) := je_putf0 (show jm_fe 101 10 = some (jk_putf 1 0 2) from rfl) hn hk hf
theorem ii_101_13 : je X 101 13 L S σ = je X 101 14 L (.inl 0 :: S) σ := je_const (show jm_fe 101 13 = some (jk_const 0 1) from rfl)
theorem ii_101_14 : je X 101 14 [l0, l1] (.inl x :: S) σ = je X 101 15 [l0, some (.inl x)] S σ := je_istore (show jm_fe 101 14 = some (jk_istore 1 1) from rfl) (Nat.le_of_ble_eq_true rfl)
theorem ii_101_15 : je X 101 15 [l0, some (.inl x)] S σ = je X 101 16 [l0, some (.inl x)] (.inl x :: S) σ := je_iload (show jm_fe 101 15 = some (jk_iload 1 1) from rfl) rfl
theorem ii_101_16 : je X 101 16 L S σ = je X 101 18 L (.inl 8 :: S) σ := je_const (show jm_fe 101 16 = some (jk_const (8) 2) from rfl)
theorem ii_101_18 : je X 101 18 L (.inl q :: .inl p :: S) σ = if q ≤ p then je X 101 40 L S σ else je X 101 21 L S σ := je_icmp_ge (show jm_fe 101 18 = some (jk_icmp .ge 40) from rfl)
theorem ii_101_21 : je X 101 21 [some (.inr rr), l1] S σ = je X 101 22 [some (.inr rr), l1] (.inr rr :: S) σ := je_aload (show jm_fe 101 21 = some (jk_aload 0 1) from rfl) rfl
theorem ii_101_22 (hn : g.length = n) {f0 f1 : jm_V} : je X 101 22 L (.inr (.inl (some n)) :: S) (g ++ (.inl (1, [f0, f1]) :: r), z) = je X 101 25 L (f0 :: S) (g ++ (.inl (1, [f0, f1]) :: r), z) := je_getf0 (show jm_fe 101 22 = some (jk_getf 1 0) from rfl) hn rfl
theorem ii_101_25 : je X 101 25 [l0, some (.inl x)] S σ = je X 101 26 [l0, some (.inl x)] (.inl x :: S) σ := je_iload (show jm_fe 101 25 = some (jk_iload 1 1) from rfl) rfl
theorem ii_101_26 : je X 101 26 L S (g ++ l, z) = je X 101 29 L (.inr (.inl (some (g.length + l.length))) :: S) (g ++ (l ++ [.inl (2, jc_new2)]), z + 12) := je_new (show jm_fe 101 26 = some (jk_new 2 jc_new2) from rfl) rfl
theorem ii_101_29 : je X 101 29 L (v :: S) σ = je X 101 30 L (v :: v :: S) σ := je_dup (show jm_fe 101 29 = some (jk_dup) from rfl)
theorem ii_101_30 (h8 : Nat.ble S.length 8 = true) : je X 101 30 L (.inr (.inl (some a)) :: S) σ = je_c X 101 33 L S (je X 86 0 [some (.inr (.inl (some a)))] [] σ) := je_callI (as := []) (S' := S) (show jm_fe 101 30 = some (jk_callI 86 0) from rfl) rfl (Nat.le_of_ble_eq_true h8)
theorem ii_101_33 (hn : g.length = n) (hf : E.length = f) (hx : jm_in x rs.length = true) : je X 101 33 L (.inr (.inl (some (n + (f + 2)))) :: .inl x :: .inr (.inl (some (n + 1))) :: S) (g ++ (o :: .inr (.inr (2, rs)) :: (E ++ (.inl (2, fs) :: r))), z) = je X 101 34 L S (g ++ (o :: .inr (.inr (2, rs.set x.toNatClampNeg (some (n + (f + 2))))) :: (E ++ (.inl (2, fs) :: r))), z) := je_aast0 (show jm_fe 101 33 = some (jk_aast 2 2) from rfl) hn hf hx
theorem ii_101_34 : je X 101 34 [l0, some (.inl x)] S σ = je X 101 37 [l0, some (.inl (x + (1)))] S σ := je_iinc (show jm_fe 101 34 = some (jk_iinc 1 (1)) from rfl) rfl
theorem ii_101_37 : je X 101 37 L S σ = je X 101 15 L S σ := je_goto (show jm_fe 101 37 = some (jk_goto 15) from rfl)
theorem ii_101_40 : je X 101 40 [some (.inr rr), l1] S σ = je X 101 41 [some (.inr rr), l1] (.inr rr :: S) σ := je_aload (show jm_fe 101 40 = some (jk_aload 0 1) from rfl) rfl
theorem ii_101_41 : je X 101 41 L S σ = je X 101 42 L (.inl 0 :: S) σ := je_const (show jm_fe 101 41 = some (jk_const 0 1) from rfl)
theorem ii_101_42 (hn : g.length = n) (hk : Nat.blt 1 fs.length = true) (hf : jm_fit 0 v = true) : je X 101 42 L (v :: .inr (.inl (some n)) :: S) (g ++ (.inl (1, fs) :: r), z) = je X 101 45 L S (g ++ (.inl (1, fs.set 1 v) :: r), z) := je_putf0 (show jm_fe 101 42 = some (jk_putf 1 1 0) from rfl) hn hk hf
theorem ii_101_45 : je X 101 45 L [] σ = some (none, σ) := je_ret (show jm_fe 101 45 = some (jk_ret) from rfl)
theorem ii_112_0 : je X 112 0 [some (.inr rr), l1, l2, l3] S σ = je X 112 1 [some (.inr rr), l1, l2, l3] (.inr rr :: S) σ := je_aload (show jm_fe 112 0 = some (jk_aload 0 1) from rfl) rfl
theorem ii_112_1 (h8 : Nat.ble S.length 8 = true) : je X 112 1 L (.inr (.inl (some a)) :: S) σ = je X 112 4 L S σ := je_oinit (show jm_fe 112 1 = some (jk_oinit) from rfl) h8
theorem ii_112_4 : je X 112 4 [some (.inr rr), l1, l2, l3] S σ = je X 112 5 [some (.inr rr), l1, l2, l3] (.inr rr :: S) σ := je_aload (show jm_fe 112 4 = some (jk_aload 0 1) from rfl) rfl
theorem ii_112_5 : je X 112 5 [l0, some (.inr rr), l2, l3] S σ = je X 112 6 [l0, some (.inr rr), l2, l3] (.inr rr :: S) σ := je_aload (show jm_fe 112 5 = some (jk_aload 1 1) from rfl) rfl
theorem ii_112_6 (hn : g.length = n) (hk : Nat.blt 0 fs.length = true) (hf : jm_fit 2 v = true) : je X 112 6 L (v :: .inr (.inl (some n)) :: S) (g ++ (.inl (4, fs) :: r), z) = je X 112 9 L S (g ++ (.inl (4, fs.set 0 v) :: r), z) := je_putf0 (show jm_fe 112 6 = some (jk_putf 4 0 2) from rfl) hn hk hf
theorem ii_112_9 : je X 112 9 [some (.inr rr), l1, l2, l3] S σ = je X 112 10 [some (.inr rr), l1, l2, l3] (.inr rr :: S) σ := je_aload (show jm_fe 112 9 = some (jk_aload 0 1) from rfl) rfl
theorem ii_112_10 : je X 112 10 [l0, l1, some (.inr rr), l3] S σ = je X 112 11 [l0, l1, some (.inr rr), l3] (.inr rr :: S) σ := je_aload (show jm_fe 112 10 = some (jk_aload 2 1) from rfl) rfl
theorem ii_112_11 (hn : g.length = n) (hk : Nat.blt 1 fs.length = true) (hf : jm_fit 2 v = true) : je X 112 11 L (v :: .inr (.inl (some n)) :: S) (g ++ (.inl (4, fs) :: r), z) = je X 112 14 L S (g ++ (.inl (4, fs.set 1 v) :: r), z) := je_putf0 (show jm_fe 112 11 = some (jk_putf 4 1 2) from rfl) hn hk hf
theorem ii_112_14 : je X 112 14 [some (.inr rr), l1, l2, l3] S σ = je X 112 15 [some (.inr rr), l1, l2, l3] (.inr rr :: S) σ := je_aload (show jm_fe 112 14 = some (jk_aload 0 1) from rfl) rfl
theorem ii_112_15 : je X 112 15 L S σ = je X 112 17 L (.inl 20 :: S) σ := je_const (show jm_fe 112 15 = some (jk_const (20) 2) from rfl)
theorem ii_112_17 : je X 112 17 L (.inl 20 :: S) (g ++ l, z) = je X 112 20 L (.inr (.inl (some (g.length + l.length))) :: S) (g ++ (l ++ [.inr (.inr (3, List.replicate 20 none))]), z + 20) := je_newq (show jm_fe 112 17 = some (jk_newq 3) from rfl) (by decide) (by decide) (by decide)
theorem ii_112_20 (hn : g.length = n) (hk : Nat.blt 2 fs.length = true) (hf : jm_fit 2 v = true) : je X 112 20 L (v :: .inr (.inl (some n)) :: S) (g ++ (.inl (4, fs) :: r), z) = je X 112 23 L S (g ++ (.inl (4, fs.set 2 v) :: r), z) := je_putf0 (show jm_fe 112 20 = some (jk_putf 4 2 2) from rfl) hn hk hf
theorem ii_112_23 : je X 112 23 L S σ = je X 112 24 L (.inl 0 :: S) σ := je_const (show jm_fe 112 23 = some (jk_const 0 1) from rfl)
theorem ii_112_24 : je X 112 24 [l0, l1, l2, l3] (.inl x :: S) σ = je X 112 25 [l0, l1, l2, some (.inl x)] S σ := je_istore (show jm_fe 112 24 = some (jk_istore 3 1) from rfl) (Nat.le_of_ble_eq_true rfl)
theorem ii_112_25 : je X 112 25 [l0, l1, l2, some (.inl x)] S σ = je X 112 26 [l0, l1, l2, some (.inl x)] (.inl x :: S) σ := je_iload (show jm_fe 112 25 = some (jk_iload 3 1) from rfl) rfl
theorem ii_112_26 : je X 112 26 L S σ = je X 112 28 L (.inl 20 :: S) σ := je_const (show jm_fe 112 26 = some (jk_const (20) 2) from rfl)
theorem ii_112_28 : je X 112 28 L (.inl q :: .inl p :: S) σ = if q ≤ p then je X 112 50 L S σ else je X 112 31 L S σ := je_icmp_ge (show jm_fe 112 28 = some (jk_icmp .ge 50) from rfl)
theorem ii_112_31 : je X 112 31 [some (.inr rr), l1, l2, l3] S σ = je X 112 32 [some (.inr rr), l1, l2, l3] (.inr rr :: S) σ := je_aload (show jm_fe 112 31 = some (jk_aload 0 1) from rfl) rfl
theorem ii_112_32 (hn : g.length = n) {f0 f1 f2 f3 f4 f5 f6 f7 f8 f9 f10 f11 : jm_V} : je X 112 32 L (.inr (.inl (some n)) :: S) (g ++ (.inl (4, [f0, f1, f2, f3, f4, f5, f6, f7, f8, f9, f10, f11]) :: r), z) = je X 112 35 L (f2 :: S) (g ++ (.inl (4, [f0, f1, f2, f3, f4, f5, f6, f7, f8, f9, f10, f11]) :: r), z) := je_getf0 (show jm_fe 112 32 = some (jk_getf 4 2) from rfl) hn rfl
theorem ii_112_35 : je X 112 35 [l0, l1, l2, some (.inl x)] S σ = je X 112 36 [l0, l1, l2, some (.inl x)] (.inl x :: S) σ := je_iload (show jm_fe 112 35 = some (jk_iload 3 1) from rfl) rfl
theorem ii_112_36 : je X 112 36 L S (g ++ l, z) = je X 112 39 L (.inr (.inl (some (g.length + l.length))) :: S) (g ++ (l ++ [.inl (5, jc_new5)]), z + 4) := je_new (show jm_fe 112 36 = some (jk_new 5 jc_new5) from rfl) rfl
theorem ii_112_39 : je X 112 39 L (v :: S) σ = je X 112 40 L (v :: v :: S) σ := je_dup (show jm_fe 112 39 = some (jk_dup) from rfl)
theorem ii_112_40 (h8 : Nat.ble S.length 8 = true) : je X 112 40 L (.inr (.inl (some a)) :: S) σ = je_c X 112 43 L S (je X 82 0 [some (.inr (.inl (some a)))] [] σ) := je_callI (as := []) (S' := S) (show jm_fe 112 40 = some (jk_callI 82 0) from rfl) rfl (Nat.le_of_ble_eq_true h8)
theorem ii_112_43 (hn : g.length = n) (hf : E.length = f) (hx : jm_in x rs.length = true) : je X 112 43 L (.inr (.inl (some (n + (f + 2)))) :: .inl x :: .inr (.inl (some (n + 1))) :: S) (g ++ (o :: .inr (.inr (3, rs)) :: (E ++ (.inl (5, fs) :: r))), z) = je X 112 44 L S (g ++ (o :: .inr (.inr (3, rs.set x.toNatClampNeg (some (n + (f + 2))))) :: (E ++ (.inl (5, fs) :: r))), z) := je_aast0 (show jm_fe 112 43 = some (jk_aast 3 5) from rfl) hn hf hx
theorem ii_112_44 : je X 112 44 [l0, l1, l2, some (.inl x)] S σ = je X 112 47 [l0, l1, l2, some (.inl (x + (1)))] S σ := je_iinc (show jm_fe 112 44 = some (jk_iinc 3 (1)) from rfl) rfl
theorem ii_112_47 : je X 112 47 L S σ = je X 112 25 L S σ := je_goto (show jm_fe 112 47 = some (jk_goto 25) from rfl)
theorem ii_112_50 : je X 112 50 [some (.inr rr), l1, l2, l3] S σ = je X 112 51 [some (.inr rr), l1, l2, l3] (.inr rr :: S) σ := je_aload (show jm_fe 112 50 = some (jk_aload 0 1) from rfl) rfl
theorem ii_112_51 : je X 112 51 L S (g ++ l, z) = je X 112 54 L (.inr (.inl (some (g.length + l.length))) :: S) (g ++ (l ++ [.inl (7, jc_new7)]), z + 5) := je_new (show jm_fe 112 51 = some (jk_new 7 jc_new7) from rfl) rfl
theorem ii_112_54 : je X 112 54 L (v :: S) σ = je X 112 55 L (v :: v :: S) σ := je_dup (show jm_fe 112 54 = some (jk_dup) from rfl)
theorem ii_112_55 (h8 : Nat.ble S.length 8 = true) : je X 112 55 L (.inr (.inl (some a)) :: S) σ = je_c X 112 58 L S (je X 105 0 [some (.inr (.inl (some a)))] [] σ) := je_callI (as := []) (S' := S) (show jm_fe 112 55 = some (jk_callI 105 0) from rfl) rfl (Nat.le_of_ble_eq_true h8)
theorem ii_112_58 (hn : g.length = n) (hk : Nat.blt 3 fs.length = true) (hf : jm_fit 2 v = true) : je X 112 58 L (v :: .inr (.inl (some n)) :: S) (g ++ (.inl (4, fs) :: r), z) = je X 112 61 L S (g ++ (.inl (4, fs.set 3 v) :: r), z) := je_putf0 (show jm_fe 112 58 = some (jk_putf 4 3 2) from rfl) hn hk hf
theorem ii_112_61 : je X 112 61 [some (.inr rr), l1, l2, l3] S σ = je X 112 62 [some (.inr rr), l1, l2, l3] (.inr rr :: S) σ := je_aload (show jm_fe 112 61 = some (jk_aload 0 1) from rfl) rfl
theorem ii_112_62 : je X 112 62 L S (g ++ l, z) = je X 112 65 L (.inr (.inl (some (g.length + l.length))) :: S) (g ++ (l ++ [.inl (8, jc_new8)]), z + 2) := je_new (show jm_fe 112 62 = some (jk_new 8 jc_new8) from rfl) rfl
theorem ii_112_65 : je X 112 65 L (v :: S) σ = je X 112 66 L (v :: v :: S) σ := je_dup (show jm_fe 112 65 = some (jk_dup) from rfl)
theorem ii_112_66 (h8 : Nat.ble S.length 8 = true) : je X 112 66 L (.inr (.inl (some a)) :: S) σ = je_c X 112 69 L S (je X 97 0 [some (.inr (.inl (some a)))] [] σ) := je_callI (as := []) (S' := S) (show jm_fe 112 66 = some (jk_callI 97 0) from rfl) rfl (Nat.le_of_ble_eq_true h8)
theorem ii_112_69 (hn : g.length = n) (hk : Nat.blt 4 fs.length = true) (hf : jm_fit 2 v = true) : je X 112 69 L (v :: .inr (.inl (some n)) :: S) (g ++ (.inl (4, fs) :: r), z) = je X 112 72 L S (g ++ (.inl (4, fs.set 4 v) :: r), z) := je_putf0 (show jm_fe 112 69 = some (jk_putf 4 4 2) from rfl) hn hk hf
theorem ii_112_72 : je X 112 72 [some (.inr rr), l1, l2, l3] S σ = je X 112 73 [some (.inr rr), l1, l2, l3] (.inr rr :: S) σ := je_aload (show jm_fe 112 72 = some (jk_aload 0 1) from rfl) rfl
theorem ii_112_73 : je X 112 73 L S σ = je X 112 74 L (.inl (-1) :: S) σ := je_const (show jm_fe 112 73 = some (jk_const (-1) 1) from rfl)
theorem ii_112_74 (hn : g.length = n) (hk : Nat.blt 9 fs.length = true) (hf : jm_fit 0 v = true) : je X 112 74 L (v :: .inr (.inl (some n)) :: S) (g ++ (.inl (4, fs) :: r), z) = je X 112 77 L S (g ++ (.inl (4, fs.set 9 v) :: r), z) := je_putf0 (show jm_fe 112 74 = some (jk_putf 4 9 0) from rfl) hn hk hf
theorem ii_112_77 : je X 112 77 L [] σ = some (none, σ) := je_ret (show jm_fe 112 77 = some (jk_ret) from rfl)
theorem ii_1_0 : je X 1 0 [some (.inr rr)] S σ = je X 1 1 [some (.inr rr)] (.inr rr :: S) σ := je_aload (show jm_fe 1 0 = some (jk_aload 0 1) from rfl) rfl
theorem ii_1_1 (h8 : Nat.ble S.length 8 = true) : je X 1 1 L (.inr (.inl (some a)) :: S) σ = je X 1 4 L S σ := je_oinit (show jm_fe 1 1 = some (jk_oinit) from rfl) h8
theorem ii_1_4 : je X 1 4 [some (.inr rr)] S σ = je X 1 5 [some (.inr rr)] (.inr rr :: S) σ := je_aload (show jm_fe 1 4 = some (jk_aload 0 1) from rfl) rfl
theorem ii_1_5 : je X 1 5 L S (g ++ l, z) = je X 1 8 L (.inr (.inl (some (g.length + l.length))) :: S) (g ++ (l ++ [.inl (1, jc_new1)]), z + 2) := je_new (show jm_fe 1 5 = some (jk_new 1 jc_new1) from rfl) rfl
theorem ii_1_8 : je X 1 8 L (v :: S) σ = je X 1 9 L (v :: v :: S) σ := je_dup (show jm_fe 1 8 = some (jk_dup) from rfl)
theorem ii_1_9 (h8 : Nat.ble S.length 8 = true) : je X 1 9 L (.inr (.inl (some a)) :: S) σ = je_c X 1 12 L S (je X 101 0 [some (.inr (.inl (some a))), none] [] σ) := je_callI (as := []) (S' := S) (show jm_fe 1 9 = some (jk_callI 101 0) from rfl) rfl (Nat.le_of_ble_eq_true h8)
theorem ii_1_12 (hn : g.length = n) (hk : Nat.blt 0 fs.length = true) (hf : jm_fit 2 v = true) : je X 1 12 L (v :: .inr (.inl (some n)) :: S) (g ++ (.inl (0, fs) :: r), z) = je X 1 15 L S (g ++ (.inl (0, fs.set 0 v) :: r), z) := je_putf0 (show jm_fe 1 12 = some (jk_putf 0 0 2) from rfl) hn hk hf
theorem ii_1_15 : je X 1 15 [some (.inr rr)] S σ = je X 1 16 [some (.inr rr)] (.inr rr :: S) σ := je_aload (show jm_fe 1 15 = some (jk_aload 0 1) from rfl) rfl
theorem ii_1_16 : je X 1 16 L S (g ++ l, z) = je X 1 19 L (.inr (.inl (some (g.length + l.length))) :: S) (g ++ (l ++ [.inl (3, jc_new3)]), z + 2) := je_new (show jm_fe 1 16 = some (jk_new 3 jc_new3) from rfl) rfl
theorem ii_1_19 : je X 1 19 L (v :: S) σ = je X 1 20 L (v :: v :: S) σ := je_dup (show jm_fe 1 19 = some (jk_dup) from rfl)
theorem ii_1_20 (h8 : Nat.ble S.length 8 = true) : je X 1 20 L (.inr (.inl (some a)) :: S) σ = je_c X 1 23 L S (je X 64 0 [some (.inr (.inl (some a)))] [] σ) := je_callI (as := []) (S' := S) (show jm_fe 1 20 = some (jk_callI 64 0) from rfl) rfl (Nat.le_of_ble_eq_true h8)
theorem ii_1_23 (hn : g.length = n) (hk : Nat.blt 1 fs.length = true) (hf : jm_fit 2 v = true) : je X 1 23 L (v :: .inr (.inl (some n)) :: S) (g ++ (.inl (0, fs) :: r), z) = je X 1 26 L S (g ++ (.inl (0, fs.set 1 v) :: r), z) := je_putf0 (show jm_fe 1 23 = some (jk_putf 0 1 2) from rfl) hn hk hf
theorem ii_1_26 : je X 1 26 [some (.inr rr)] S σ = je X 1 27 [some (.inr rr)] (.inr rr :: S) σ := je_aload (show jm_fe 1 26 = some (jk_aload 0 1) from rfl) rfl
theorem ii_1_27 : je X 1 27 L S (g ++ l, z) = je X 1 30 L (.inr (.inl (some (g.length + l.length))) :: S) (g ++ (l ++ [.inl (4, jc_new4)]), z + 12) := je_new (show jm_fe 1 27 = some (jk_new 4 jc_new4) from rfl) rfl
theorem ii_1_30 : je X 1 30 L (v :: S) σ = je X 1 31 L (v :: v :: S) σ := je_dup (show jm_fe 1 30 = some (jk_dup) from rfl)
theorem ii_1_31 : je X 1 31 [some (.inr rr)] S σ = je X 1 32 [some (.inr rr)] (.inr rr :: S) σ := je_aload (show jm_fe 1 31 = some (jk_aload 0 1) from rfl) rfl
theorem ii_1_32 (hn : g.length = n) {f0 f1 f2 : jm_V} : je X 1 32 L (.inr (.inl (some n)) :: S) (g ++ (.inl (0, [f0, f1, f2]) :: r), z) = je X 1 35 L (f0 :: S) (g ++ (.inl (0, [f0, f1, f2]) :: r), z) := je_getf0 (show jm_fe 1 32 = some (jk_getf 0 0) from rfl) hn rfl
theorem ii_1_35 : je X 1 35 [some (.inr rr)] S σ = je X 1 36 [some (.inr rr)] (.inr rr :: S) σ := je_aload (show jm_fe 1 35 = some (jk_aload 0 1) from rfl) rfl
theorem ii_1_36 (hn : g.length = n) {f0 f1 f2 : jm_V} : je X 1 36 L (.inr (.inl (some n)) :: S) (g ++ (.inl (0, [f0, f1, f2]) :: r), z) = je X 1 39 L (f1 :: S) (g ++ (.inl (0, [f0, f1, f2]) :: r), z) := je_getf0 (show jm_fe 1 36 = some (jk_getf 0 1) from rfl) hn rfl
theorem ii_1_39 (h8 : Nat.ble S.length 8 = true) : je X 1 39 L (v1 :: v0 :: .inr (.inl (some a)) :: S) σ = je_c X 1 42 L S (je X 112 0 [some (.inr (.inl (some a))), some v0, some v1, none] [] σ) := je_callI (as := [v0, v1]) (S' := S) (show jm_fe 1 39 = some (jk_callI 112 2) from rfl) rfl (Nat.le_of_ble_eq_true h8)
theorem ii_1_42 (hn : g.length = n) (hk : Nat.blt 2 fs.length = true) (hf : jm_fit 2 v = true) : je X 1 42 L (v :: .inr (.inl (some n)) :: S) (g ++ (.inl (0, fs) :: r), z) = je X 1 45 L S (g ++ (.inl (0, fs.set 2 v) :: r), z) := je_putf0 (show jm_fe 1 42 = some (jk_putf 0 2 2) from rfl) hn hk hf
theorem ii_1_45 : je X 1 45 L [] σ = some (none, σ) := je_ret (show jm_fe 1 45 = some (jk_ret) from rfl)
theorem ii_0_0 : je X 0 0 L S (g ++ l, z) = je X 0 3 L (.inr (.inl (some (g.length + l.length))) :: S) (g ++ (l ++ [.inl (0, jc_new0)]), z + 3) := je_new (show jm_fe 0 0 = some (jk_new 0 jc_new0) from rfl) rfl
theorem ii_0_3 : je X 0 3 L (v :: S) σ = je X 0 4 L (v :: v :: S) σ := je_dup (show jm_fe 0 3 = some (jk_dup) from rfl)
theorem ii_0_4 (h8 : Nat.ble S.length 8 = true) : je X 0 4 L (.inr (.inl (some a)) :: S) σ = je_c X 0 7 L S (je X 1 0 [some (.inr (.inl (some a)))] [] σ) := je_callI (as := []) (S' := S) (show jm_fe 0 4 = some (jk_callI 1 0) from rfl) rfl (Nat.le_of_ble_eq_true h8)
theorem ii_0_7 : je X 0 7 [l0, l1, l2, l3] (.inr rr :: S) σ = je X 0 8 [l0, some (.inr rr), l2, l3] S σ := je_astore (show jm_fe 0 7 = some (jk_astore 1 1) from rfl) (Nat.le_of_ble_eq_true rfl)
theorem ii_0_8 : je X 0 8 L S (g ++ l, z) = je X 0 11 L (.inr (.inl (some (g.length + l.length))) :: S) (g ++ (l ++ [.inl (9, jc_new9)]), z + 36) := je_new (show jm_fe 0 8 = some (jk_new 9 jc_new9) from rfl) rfl
theorem ii_0_11 : je X 0 11 L (v :: S) σ = je X 0 12 L (v :: v :: S) σ := je_dup (show jm_fe 0 11 = some (jk_dup) from rfl)
theorem ii_0_12 (h8 : Nat.ble S.length 8 = true) : je X 0 12 L (.inr (.inl (some a)) :: S) σ = je_c X 0 15 L S (je X 19 0 [some (.inr (.inl (some a)))] [] σ) := je_callI (as := []) (S' := S) (show jm_fe 0 12 = some (jk_callI 19 0) from rfl) rfl (Nat.le_of_ble_eq_true h8)
theorem ii_0_15 : je X 0 15 [l0, l1, l2, l3] (.inr rr :: S) σ = je X 0 16 [l0, l1, some (.inr rr), l3] S σ := je_astore (show jm_fe 0 15 = some (jk_astore 2 1) from rfl) (Nat.le_of_ble_eq_true rfl)
end JI
