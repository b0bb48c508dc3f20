section JI
variable {X : jm_X} {L : jm_L} {S : List jm_V} {σ : jm_S} {g l r E : jm_H} {n z f a i : Nat} {fs : List jm_V} {l0 l1 l2 l3 : Option jm_V} {x p q : Int32} {rr rp ra : Option Nat ⊕ Unit} {v v0 v1 : jm_V} {rs : List (Option Nat)} {o : jm_C}
def in_kc (c : Nat) (m : Nat) : jm_H := [.inl (6, [.inr (.inl (some (m + 1))), .inr (.inl (some (m + 2))), .inl 0]), .inr (.inl (0, c, fun _ => 0)), .inr (.inl (0, c, fun _ => 0))]
def in_ka (m : Nat) : jm_H := [.inl (3, [.inr (.inl (some (m + 1))), .inl 0]), .inr (.inl (0, 64, fun _ => 0))]
def in_ko (m : Nat) : jm_H := [.inl (8, [.inr (.inl (some (m + 1))), .inl 0]), .inr (.inl (0, 320, fun _ => 0))]
def in_kr (m : Nat) : jm_H := [.inl (7, [.inr (.inl (some (m + 1))), .inr (.inl (some (m + 2))), .inr (.inl (some (m + 3))), .inl 0, .inl 0]), .inr (.inl (0, 1024, fun _ => 0)), .inr (.inl (0, 500, fun _ => 0)), .inr (.inl (0, 500, fun _ => 0))]
def in_kn (m : Nat) : jm_H := [.inl (2, [.inr (.inl (some (m + 1))), .inr (.inl (some (m + 2))), .inr (.inl (some (m + 3))), .inr (.inl (some (m + 4))), .inr (.inl (some (m + 5))), .inr (.inl (some (m + 6))), .inr (.inl (some (m + 7))), .inl 0, .inl 0, .inl 0, .inl 0, .inl 0]), .inr (.inl (0, 100, fun _ => 0)), .inr (.inl (0, 100, fun _ => 0)), .inr (.inl (0, 4, fun _ => 0)), .inr (.inl (0, 4, fun _ => 0)), .inr (.inl (0, 4, fun _ => 0)), .inr (.inl (0, 4, fun _ => 0)), .inr (.inl (1, 4, fun _ => 0))]
def in_kf (m : Nat) : jm_H := [.inl (5, [.inr (.inl (some (m + 1))), .inr (.inl (some (m + 4))), .inl 0, .inl 0]), .inl (6, [.inr (.inl (some (m + 2))), .inr (.inl (some (m + 3))), .inl 0]), .inr (.inl (0, 16, fun _ => 0)), .inr (.inl (0, 16, fun _ => 0)), .inl (6, [.inr (.inl (some (m + 5))), .inr (.inl (some (m + 6))), .inl 0]), .inr (.inl (0, 8, fun _ => 0)), .inr (.inl (0, 8, fun _ => 0))]
def in_km (m : Nat) : jm_H := [.inl (9, [.inl 0, .inl 0, .inr (.inl (some (m + 1))), .inr (.inl (some (m + 2))), .inr (.inl (some (m + 3))), .inr (.inl (some (m + 4))), .inr (.inl (some (m + 5))), .inr (.inl (some (m + 6))), .inr (.inl (some (m + 7))), .inr (.inl (some (m + 8))), .inr (.inl (some (m + 9))), .inr (.inl (some (m + 10))), .inr (.inl (some (m + 11))), .inr (.inl (some (m + 12))), .inr (.inl (some (m + 13))), .inl 0, .inl 0, .inl (-1), .inl 0, .inl 0, .inl 0, .inl 0, .inl 0, .inr (.inl (some (m + 14))), .inr (.inl (some (m + 15))), .inr (.inl (some (m + 16))), .inr (.inl (some (m + 17))), .inr (.inl (some (m + 18))), .inr (.inl (some (m + 19))), .inr (.inl (some (m + 20))), .inl 0, .inl 0, .inr (.inl (some (m + 21))), .inr (.inl (some (m + 22))), .inr (.inl (some (m + 23))), .inr (.inl (some (m + 24)))]), .inr (.inl (0, 8, fun _ => 0)), .inr (.inl (0, 8, fun _ => 0)), .inr (.inl (0, 8, fun _ => 0)), .inr (.inl (0, 8, fun _ => 0)), .inr (.inl (0, 800, fun _ => 0)), .inr (.inl (0, 800, fun _ => 0)), .inr (.inl (0, 8, fun _ => 0)), .inr (.inl (0, 32, fun _ => 0)), .inr (.inl (0, 32, fun _ => 0)), .inr (.inl (0, 32, fun _ => 0)), .inr (.inl (1, 32, fun _ => 0)), .inr (.inl (0, 32, fun _ => 0)), .inr (.inl (0, 64, fun _ => 0)), .inr (.inl (0, 20, fun _ => 0)), .inr (.inl (0, 20, fun _ => 0)), .inr (.inl (0, 20, fun _ => 0)), .inr (.inl (0, 320, fun _ => 0)), .inr (.inl (0, 320, fun _ => 0)), .inr (.inl (0, 160, fun _ => 0)), .inr (.inl (0, 160, fun _ => 0)), .inr (.inl (0, 501, fun _ => 0)), .inr (.inl (0, 501, fun _ => 0)), .inr (.inl (0, 1024, fun _ => 0)), .inr (.inl (0, 320, fun _ => 0))]
theorem in_68_16 (hn : g.length = n) : je X 68 0 [some (.inr (.inl (some n))), some (.inl 16), none] [] (g ++ [.inl (6, jc_new6)], z) = some (none, (g ++ in_kc 16 n, z + 32)) := by
  simp (disch := first | assumption | (simp; done)) only [ii_68_0, ii_68_1, ii_68_4, ii_68_5, ii_68_6_16, ii_68_9, ii_68_10, ii_68_11, ii_68_12_16, ii_68_14, ii_68_17, ii_68_18, ii_68_19_16, ii_68_21, ii_68_24, ii_68_25, ii_68_26, ii_68_29, hn, List.append_assoc, List.cons_append, List.nil_append, List.append_nil, List.length_append, List.length_cons, List.length_nil, List.set_cons_zero, List.set_cons_succ, Nat.add_assoc, Nat.reduceAdd, Nat.zero_add, jc_new0, jc_new1, jc_new2, jc_new3, jc_new4, jc_new5, jc_new6, jc_new7, jc_new8, jc_new9, in_kc, in_kf, in_kn, in_ko, in_kr, in_ka]
theorem in_68_8 (hn : g.length = n) : je X 68 0 [some (.inr (.inl (some n))), some (.inl 8), none] [] (g ++ [.inl (6, jc_new6)], z) = some (none, (g ++ in_kc 8 n, z + 16)) := by
  simp (disch := first | assumption | (simp; done)) only [ii_68_0, ii_68_1, ii_68_4, ii_68_5, ii_68_6_8, ii_68_9, ii_68_10, ii_68_11, ii_68_12_8, ii_68_14, ii_68_17, ii_68_18, ii_68_19_8, ii_68_21, ii_68_24, ii_68_25, ii_68_26, ii_68_29, hn, List.append_assoc, List.cons_append, List.nil_append, List.append_nil, List.length_append, List.length_cons, List.length_nil, List.set_cons_zero, List.set_cons_succ, Nat.add_assoc, Nat.reduceAdd, Nat.zero_add, jc_new0, jc_new1, jc_new2, jc_new3, jc_new4, jc_new5, jc_new6, jc_new7, jc_new8, jc_new9, in_kc, in_kf, in_kn, in_ko, in_kr, in_ka]
theorem in_86 (hn : g.length = n) : je X 86 0 [some (.inr (.inl (some n)))] [] (g ++ [.inl (2, jc_new2)], z) = some (none, (g ++ in_kn n, z + 220)) := by
  simp (disch := first | assumption | (simp; done)) only [ii_86_0, ii_86_1, ii_86_4, ii_86_5, ii_86_7, ii_86_9, ii_86_12, ii_86_13, ii_86_15, ii_86_17, ii_86_20, ii_86_21, ii_86_22, ii_86_24, ii_86_27, ii_86_28, ii_86_29, ii_86_31, ii_86_34, ii_86_35, ii_86_36, ii_86_38, ii_86_41, ii_86_42, ii_86_43, ii_86_45, ii_86_48, ii_86_49, ii_86_50, ii_86_52, ii_86_55, hn, List.append_assoc, List.cons_append, List.nil_append, List.append_nil, List.length_append, List.length_cons, List.length_nil, List.set_cons_zero, List.set_cons_succ, Nat.add_assoc, Nat.reduceAdd, Nat.zero_add, jc_new0, jc_new1, jc_new2, jc_new3, jc_new4, jc_new5, jc_new6, jc_new7, jc_new8, jc_new9, in_kc, in_kf, in_kn, in_ko, in_kr, in_ka]
theorem in_64 (hn : g.length = n) : je X 64 0 [some (.inr (.inl (some n)))] [] (g ++ [.inl (3, jc_new3)], z) = some (none, (g ++ in_ka n, z + 64)) := by
  simp (disch := first | assumption | (simp; done)) only [ii_64_0, ii_64_1, ii_64_4, ii_64_5, ii_64_7, ii_64_9, ii_64_12, ii_64_13, ii_64_14, ii_64_17, hn, List.append_assoc, List.cons_append, List.nil_append, List.append_nil, List.length_append, List.length_cons, List.length_nil, List.set_cons_zero, List.set_cons_succ, Nat.add_assoc, Nat.reduceAdd, Nat.zero_add, jc_new0, jc_new1, jc_new2, jc_new3, jc_new4, jc_new5, jc_new6, jc_new7, jc_new8, jc_new9, in_kc, in_kf, in_kn, in_ko, in_kr, in_ka]
theorem in_97 (hn : g.length = n) : je X 97 0 [some (.inr (.inl (some n)))] [] (g ++ [.inl (8, jc_new8)], z) = some (none, (g ++ in_ko n, z + 320)) := by
  simp (disch := first | assumption | (simp; done)) only [ii_97_0, ii_97_1, ii_97_4, ii_97_5, ii_97_8, ii_97_10, ii_97_13, ii_97_14, ii_97_15, ii_97_18, hn, List.append_assoc, List.cons_append, List.nil_append, List.append_nil, List.length_append, List.length_cons, List.length_nil, List.set_cons_zero, List.set_cons_succ, Nat.add_assoc, Nat.reduceAdd, Nat.zero_add, jc_new0, jc_new1, jc_new2, jc_new3, jc_new4, jc_new5, jc_new6, jc_new7, jc_new8, jc_new9, in_kc, in_kf, in_kn, in_ko, in_kr, in_ka]
theorem in_105 (hn : g.length = n) : je X 105 0 [some (.inr (.inl (some n)))] [] (g ++ [.inl (7, jc_new7)], z) = some (none, (g ++ in_kr n, z + 2024)) := by
  simp (disch := first | assumption | (simp; done)) only [ii_105_0, ii_105_1, ii_105_4, ii_105_5, ii_105_8, ii_105_10, ii_105_13, ii_105_14, ii_105_17, ii_105_19, ii_105_22, ii_105_23, ii_105_26, ii_105_28, ii_105_31, ii_105_32, ii_105_33, ii_105_36, ii_105_37, ii_105_38, ii_105_41, hn, List.append_assoc, List.cons_append, List.nil_append, List.append_nil, List.length_append, List.length_cons, List.length_nil, List.set_cons_zero, List.set_cons_succ, Nat.add_assoc, Nat.reduceAdd, Nat.zero_add, jc_new0, jc_new1, jc_new2, jc_new3, jc_new4, jc_new5, jc_new6, jc_new7, jc_new8, jc_new9, in_kc, in_kf, in_kn, in_ko, in_kr, in_ka]
set_option maxHeartbeats 4000000 in
theorem in_19 (hn : g.length = n) : je X 19 0 [some (.inr (.inl (some n)))] [] (g ++ [.inl (9, jc_new9)], z) = some (none, (g ++ in_km n, z + 5230)) := by
  simp (disch := first | assumption | (simp; done)) only [ii_19_0, ii_19_1, ii_19_4, ii_19_5, ii_19_7, ii_19_9, ii_19_12, ii_19_13, ii_19_15, ii_19_17, ii_19_20, ii_19_21, ii_19_23, ii_19_25, ii_19_28, ii_19_29, ii_19_31, ii_19_33, ii_19_36, ii_19_37, ii_19_40, ii_19_42, ii_19_45, ii_19_46, ii_19_49, ii_19_51, ii_19_54, ii_19_55, ii_19_57, ii_19_59, ii_19_62, ii_19_63, ii_19_65, ii_19_67, ii_19_70, ii_19_71, ii_19_73, ii_19_75, ii_19_78, ii_19_79, ii_19_81, ii_19_83, ii_19_86, ii_19_87, ii_19_89, ii_19_91, ii_19_94, ii_19_95, ii_19_97, ii_19_99, ii_19_102, ii_19_103, ii_19_105, ii_19_107, ii_19_110, ii_19_111, ii_19_112, ii_19_115, ii_19_116, ii_19_118, ii_19_120, ii_19_123, ii_19_124, ii_19_126, ii_19_128, ii_19_131, ii_19_132, ii_19_134, ii_19_136, ii_19_139, ii_19_140, ii_19_143, ii_19_145, ii_19_148, ii_19_149, ii_19_152, ii_19_154, ii_19_157, ii_19_158, ii_19_161, ii_19_163, ii_19_166, ii_19_167, ii_19_170, ii_19_172, ii_19_175, ii_19_176, ii_19_179, ii_19_181, ii_19_184, ii_19_185, ii_19_188, ii_19_190, ii_19_193, ii_19_194, ii_19_197, ii_19_199, ii_19_202, ii_19_203, ii_19_206, ii_19_208, ii_19_211, hn, List.append_assoc, List.cons_append, List.nil_append, List.append_nil, List.length_append, List.length_cons, List.length_nil, List.set_cons_zero, List.set_cons_succ, Nat.add_assoc, Nat.reduceAdd, Nat.zero_add, jc_new0, jc_new1, jc_new2, jc_new3, jc_new4, jc_new5, jc_new6, jc_new7, jc_new8, jc_new9, in_kc, in_kf, in_kn, in_ko, in_kr, in_ka, in_km]
theorem in_82 (hn : g.length = n) : je X 82 0 [some (.inr (.inl (some n)))] [] (g ++ [.inl (5, jc_new5)], z) = some (none, (g ++ in_kf n, z + 54)) := by
  have e1 := in_68_16 (X := X) (g := g ++ [.inl (5, jc_new5)]) (n := n + 1) (z := z + 3) (by rw [List.length_append, hn] <;> rfl)
  have e2 := in_68_8 (X := X) (g := g ++ (.inl (5, [.inr (.inl (some (n + 1))), .inr (.inl none), .inl 0, .inl 0]) :: in_kc 16 (n + 1))) (n := n + 4) (z := z + 38) (by rw [List.length_append, hn] <;> rfl)
  simp only [List.append_assoc, List.cons_append, List.nil_append, List.append_nil, List.length_append, List.length_cons, List.length_nil, List.set_cons_zero, List.set_cons_succ, Nat.add_assoc, Nat.reduceAdd, Nat.zero_add, jc_new0, jc_new1, jc_new2, jc_new3, jc_new4, jc_new5, jc_new6, jc_new7, jc_new8, jc_new9, in_kc, in_kf, in_kn, in_ko, in_kr, in_ka] at e1 e2
  simp (disch := first | assumption | (simp; done)) only [ii_82_0, ii_82_1, ii_82_4, ii_82_5, ii_82_8, ii_82_9, ii_82_11, ii_82_14, ii_82_17, ii_82_18, ii_82_21, ii_82_22, ii_82_24, ii_82_27, ii_82_30, hn, e1, e2, je_c0, List.append_assoc, List.cons_append, List.nil_append, List.append_nil, List.length_append, List.length_cons, List.length_nil, List.set_cons_zero, List.set_cons_succ, Nat.add_assoc, Nat.reduceAdd, Nat.zero_add, jc_new0, jc_new1, jc_new2, jc_new3, jc_new4, jc_new5, jc_new6, jc_new7, jc_new8, jc_new9, in_kc, in_kf, in_kn, in_ko, in_kr, in_ka]
def in_pF (n : Nat) : Nat → List (Option Nat) × jm_H
  | 0 => (List.replicate 8 none, [])
  | i + 1 => ((in_pF n i).1.set i (some (n + (8 * i + 2))), (in_pF n i).2 ++ in_kn (n + (8 * i + 2)))
theorem in_pF_l1 : ∀ i, (in_pF n i).1.length = 8 := by
  intro i
  induction i with
  | zero => rfl
  | succ i ih => show ((in_pF n i).1.set i _).length = 8; rw [List.length_set, ih]
theorem in_pF_l2 : ∀ i, (in_pF n i).2.length = 8 * i := by
  intro i
  induction i with
  | zero => rfl
  | succ i ih =>
    show ((in_pF n i).2 ++ in_kn _).length = 8 * (i + 1)
    rw [List.length_append, ih]
    rfl
theorem in_101_step (hn : g.length = n) (hf : E.length = f) (hl : rs.length = 8) (hi : i < 8) : je X 101 15 [some (.inr (.inl (some n))), some (.inl (nI i))] [] (g ++ (.inl (1, [.inr (.inl (some (n + 1))), .inl 0]) :: .inr (.inr (2, rs)) :: E), z) = je X 101 15 [some (.inr (.inl (some n))), some (.inl (nI (i + 1)))] [] (g ++ (.inl (1, [.inr (.inl (some (n + 1))), .inl 0]) :: .inr (.inr (2, rs.set i (some (n + (f + 2))))) :: (E ++ in_kn (n + (f + 2)))), z + 232) := by
  have c1 : ¬ (8 : Int32) ≤ nI i := by
    have q : ∀ i, i < 8 → ¬ (8 : Int32) ≤ nI i := by decide +kernel
    exact q i hi
  have c2 : nI i + 1 = nI (i + 1) := by
    have q : ∀ i, i < 8 → nI i + 1 = nI (i + 1) := by decide +kernel
    exact q i hi
  have c3 : (nI i).toNatClampNeg = i := by
    have q : ∀ i, i < 8 → (nI i).toNatClampNeg = i := by decide +kernel
    exact q i hi
  have c4 : jm_in (nI i) rs.length = true := by
    rw [hl]
    have q : ∀ i, i < 8 → jm_in (nI i) 8 = true := by decide +kernel
    exact q i hi
  have e1 := in_86 (X := X) (g := g ++ (.inl (1, [.inr (.inl (some (n + 1))), .inl 0]) :: .inr (.inr (2, rs)) :: E)) (n := n + (f + 2)) (z := z + 12) (by rw [List.length_append, hn, ← hf] <;> rfl)
  simp only [List.append_assoc, List.cons_append, List.nil_append, List.append_nil, List.length_append, List.length_cons, List.length_nil, List.set_cons_zero, List.set_cons_succ, Nat.add_assoc, Nat.reduceAdd, Nat.zero_add, jc_new0, jc_new1, jc_new2, jc_new3, jc_new4, jc_new5, jc_new6, jc_new7, jc_new8, jc_new9, in_kc, in_kf, in_kn, in_ko, in_kr, in_ka] at e1
  rw [ii_101_15]
  simp (disch := first | assumption | (simp; done)) only [ii_101_16, ii_101_18, ii_101_21, ii_101_22, ii_101_25, ii_101_26, ii_101_29, ii_101_30, ii_101_33, ii_101_34, ii_101_37, hn, hf, c1, c2, c3, e1, je_c0, if_false, ↓reduceIte, List.append_assoc, List.cons_append, List.nil_append, List.append_nil, List.length_append, List.length_cons, List.length_nil, List.set_cons_zero, List.set_cons_succ, Nat.add_assoc, Nat.reduceAdd, Nat.zero_add, jc_new0, jc_new1, jc_new2, jc_new3, jc_new4, jc_new5, jc_new6, jc_new7, jc_new8, jc_new9, in_kc, in_kf, in_kn, in_ko, in_kr, in_ka]
theorem in_101_loop (hn : g.length = n) : ∀ i, i ≤ 8 → je X 101 15 [some (.inr (.inl (some n))), some (.inl (0))] [] (g ++ (.inl (1, [.inr (.inl (some (n + 1))), .inl 0]) :: .inr (.inr (2, (in_pF n 0).1)) :: (in_pF n 0).2), z) = je X 101 15 [some (.inr (.inl (some n))), some (.inl (nI i))] [] (g ++ (.inl (1, [.inr (.inl (some (n + 1))), .inl 0]) :: .inr (.inr (2, (in_pF n i).1)) :: (in_pF n i).2), z + 232 * i) := by
  intro i
  induction i with
  | zero => intro _; rfl
  | succ i ih =>
    intro hi
    rw [ih (by omega), in_101_step hn (in_pF_l2 i) (in_pF_l1 i) (by omega)]
    rw [show z + 232 * (i + 1) = z + 232 * i + 232 by omega]
    rfl
theorem in_101 (hn : g.length = n) : je X 101 0 [some (.inr (.inl (some n))), none] [] (g ++ [.inl (1, jc_new1)], z) = some (none, (g ++ (.inl (1, [.inr (.inl (some (n + 1))), .inl 0]) :: .inr (.inr (2, (in_pF n 8).1)) :: (in_pF n 8).2), z + 1864)) := by
  have h1 : je X 101 0 [some (.inr (.inl (some n))), none] [] (g ++ [.inl (1, jc_new1)], z) = je X 101 15 [some (.inr (.inl (some n))), some (.inl (0))] [] (g ++ (.inl (1, [.inr (.inl (some (n + 1))), .inl 0]) :: .inr (.inr (2, (in_pF n 0).1)) :: (in_pF n 0).2), z + 8) := by
    simp (disch := first | assumption | (simp; done)) only [ii_101_0, ii_101_1, ii_101_4, ii_101_5, ii_101_7, ii_101_10, ii_101_13, ii_101_14, hn, in_pF, List.append_assoc, List.cons_append, List.nil_append, List.append_nil, List.length_append, List.length_cons, List.length_nil, List.set_cons_zero, List.set_cons_succ, Nat.add_assoc, Nat.reduceAdd, Nat.zero_add, jc_new0, jc_new1, jc_new2, jc_new3, jc_new4, jc_new5, jc_new6, jc_new7, jc_new8, jc_new9, in_kc, in_kf, in_kn, in_ko, in_kr, in_ka]
  rw [h1, in_101_loop hn 8 (Nat.le_refl 8)]
  have c1 : (8 : Int32) ≤ nI 8 := by decide
  simp (disch := first | assumption | (simp; done)) only [ii_101_15, ii_101_16, ii_101_18, ii_101_40, ii_101_41, ii_101_42, ii_101_45, hn, c1, if_true, ↓reduceIte, Nat.reduceMul, List.append_assoc, List.cons_append, List.nil_append, List.append_nil, List.length_append, List.length_cons, List.length_nil, List.set_cons_zero, List.set_cons_succ, Nat.add_assoc, Nat.reduceAdd, Nat.zero_add, jc_new0, jc_new1, jc_new2, jc_new3, jc_new4, jc_new5, jc_new6, jc_new7, jc_new8, jc_new9, in_kc, in_kf, in_kn, in_ko, in_kr, in_ka]
def in_rF (n : Nat) : Nat → List (Option Nat) × jm_H
  | 0 => (List.replicate 20 none, [])
  | i + 1 => ((in_rF n i).1.set i (some (n + (7 * i + 2))), (in_rF n i).2 ++ in_kf (n + (7 * i + 2)))
theorem in_rF_l1 : ∀ i, (in_rF n i).1.length = 20 := by
  intro i
  induction i with
  | zero => rfl
  | succ i ih => show ((in_rF n i).1.set i _).length = 20; rw [List.length_set, ih]
theorem in_rF_l2 : ∀ i, (in_rF n i).2.length = 7 * i := by
  intro i
  induction i with
  | zero => rfl
  | succ i ih =>
    show ((in_rF n i).2 ++ in_kf _).length = 7 * (i + 1)
    rw [List.length_append, ih]
    rfl
theorem in_112_step (hn : g.length = n) (hf : E.length = f) (hl : rs.length = 20) (hi : i < 20) : je X 112 25 [some (.inr (.inl (some n))), some (.inr rp), some (.inr ra), some (.inl (nI i))] [] (g ++ (.inl (4, [.inr rp, .inr ra, .inr (.inl (some (n + 1))), .inr (.inl none), .inr (.inl none), .inl 0, .inl 0, .inl 0, .inl 0, .inl 0, .inl 0, .inl 0]) :: .inr (.inr (3, rs)) :: E), z) = je X 112 25 [some (.inr (.inl (some n))), some (.inr rp), some (.inr ra), some (.inl (nI (i + 1)))] [] (g ++ (.inl (4, [.inr rp, .inr ra, .inr (.inl (some (n + 1))), .inr (.inl none), .inr (.inl none), .inl 0, .inl 0, .inl 0, .inl 0, .inl 0, .inl 0, .inl 0]) :: .inr (.inr (3, rs.set i (some (n + (f + 2))))) :: (E ++ in_kf (n + (f + 2)))), z + 58) := by
  have c1 : ¬ (20 : Int32) ≤ nI i := by
    have q : ∀ i, i < 20 → ¬ (20 : Int32) ≤ nI i := by decide +kernel
    exact q i hi
  have c2 : nI i + 1 = nI (i + 1) := by
    have q : ∀ i, i < 20 → nI i + 1 = nI (i + 1) := by decide +kernel
    exact q i hi
  have c3 : (nI i).toNatClampNeg = i := by
    have q : ∀ i, i < 20 → (nI i).toNatClampNeg = i := by decide +kernel
    exact q i hi
  have c4 : jm_in (nI i) rs.length = true := by
    rw [hl]
    have q : ∀ i, i < 20 → jm_in (nI i) 20 = true := by decide +kernel
    exact q i hi
  have e1 := in_82 (X := X) (g := g ++ (.inl (4, [.inr rp, .inr ra, .inr (.inl (some (n + 1))), .inr (.inl none), .inr (.inl none), .inl 0, .inl 0, .inl 0, .inl 0, .inl 0, .inl 0, .inl 0]) :: .inr (.inr (3, rs)) :: E)) (n := n + (f + 2)) (z := z + 4) (by rw [List.length_append, hn, ← hf] <;> rfl)
  simp only [List.append_assoc, List.cons_append, List.nil_append, List.append_nil, List.length_append, List.length_cons, List.length_nil, List.set_cons_zero, List.set_cons_succ, Nat.add_assoc, Nat.reduceAdd, Nat.zero_add, jc_new0, jc_new1, jc_new2, jc_new3, jc_new4, jc_new5, jc_new6, jc_new7, jc_new8, jc_new9, in_kc, in_kf, in_kn, in_ko, in_kr, in_ka] at e1
  rw [ii_112_25]
  simp (disch := first | assumption | (simp; done)) only [ii_112_26, ii_112_28, ii_112_31, ii_112_32, ii_112_35, ii_112_36, ii_112_39, ii_112_40, ii_112_43, ii_112_44, ii_112_47, hn, hf, c1, c2, c3, e1, je_c0, if_false, ↓reduceIte, List.append_assoc, List.cons_append, List.nil_append, List.append_nil, List.length_append, List.length_cons, List.length_nil, List.set_cons_zero, List.set_cons_succ, Nat.add_assoc, Nat.reduceAdd, Nat.zero_add, jc_new0, jc_new1, jc_new2, jc_new3, jc_new4, jc_new5, jc_new6, jc_new7, jc_new8, jc_new9, in_kc, in_kf, in_kn, in_ko, in_kr, in_ka]
theorem in_112_loop (hn : g.length = n) : ∀ i, i ≤ 20 → je X 112 25 [some (.inr (.inl (some n))), some (.inr rp), some (.inr ra), some (.inl (0))] [] (g ++ (.inl (4, [.inr rp, .inr ra, .inr (.inl (some (n + 1))), .inr (.inl none), .inr (.inl none), .inl 0, .inl 0, .inl 0, .inl 0, .inl 0, .inl 0, .inl 0]) :: .inr (.inr (3, (in_rF n 0).1)) :: (in_rF n 0).2), z) = je X 112 25 [some (.inr (.inl (some n))), some (.inr rp), some (.inr ra), some (.inl (nI i))] [] (g ++ (.inl (4, [.inr rp, .inr ra, .inr (.inl (some (n + 1))), .inr (.inl none), .inr (.inl none), .inl 0, .inl 0, .inl 0, .inl 0, .inl 0, .inl 0, .inl 0]) :: .inr (.inr (3, (in_rF n i).1)) :: (in_rF n i).2), z + 58 * i) := by
  intro i
  induction i with
  | zero => intro _; rfl
  | succ i ih =>
    intro hi
    rw [ih (by omega), in_112_step hn (in_rF_l2 i) (in_rF_l1 i) (by omega)]
    rw [show z + 58 * (i + 1) = z + 58 * i + 58 by omega]
    rfl
theorem in_112 (hn : g.length = n) : je X 112 0 [some (.inr (.inl (some n))), some (.inr rp), some (.inr ra), none] [] (g ++ [.inl (4, jc_new4)], z) = some (none, (g ++ (.inl (4, [.inr rp, .inr ra, .inr (.inl (some (n + 1))), .inr (.inl (some (n + 142))), .inr (.inl (some (n + 146))), .inl 0, .inl 0, .inl 0, .inl 0, .inl (-1), .inl 0, .inl 0]) :: .inr (.inr (3, (in_rF n 20).1)) :: ((in_rF n 20).2 ++ (in_kr (n + 142) ++ in_ko (n + 146)))), z + 3531)) := by
  have h1 : je X 112 0 [some (.inr (.inl (some n))), some (.inr rp), some (.inr ra), none] [] (g ++ [.inl (4, jc_new4)], z) = je X 112 25 [some (.inr (.inl (some n))), some (.inr rp), some (.inr ra), some (.inl (0))] [] (g ++ (.inl (4, [.inr rp, .inr ra, .inr (.inl (some (n + 1))), .inr (.inl none), .inr (.inl none), .inl 0, .inl 0, .inl 0, .inl 0, .inl 0, .inl 0, .inl 0]) :: .inr (.inr (3, (in_rF n 0).1)) :: (in_rF n 0).2), z + 20) := by
    simp (disch := first | assumption | (simp; done)) only [ii_112_0, ii_112_1, ii_112_4, ii_112_5, ii_112_6, ii_112_9, ii_112_10, ii_112_11, ii_112_14, ii_112_15, ii_112_17, ii_112_20, ii_112_23, ii_112_24, hn, in_rF, List.append_assoc, List.cons_append, List.nil_append, List.append_nil, List.length_append, List.length_cons, List.length_nil, List.set_cons_zero, List.set_cons_succ, Nat.add_assoc, Nat.reduceAdd, Nat.zero_add, jc_new0, jc_new1, jc_new2, jc_new3, jc_new4, jc_new5, jc_new6, jc_new7, jc_new8, jc_new9, in_kc, in_kf, in_kn, in_ko, in_kr, in_ka]
  rw [h1, in_112_loop hn 20 (Nat.le_refl 20)]
  have c1 : (20 : Int32) ≤ nI 20 := by decide
  have hq := in_rF_l2 (n := n) 20
  simp only [Nat.reduceMul] at hq ⊢
  generalize in_rF n 20 = q at hq ⊢
  have e1 := in_105 (X := X) (g := g ++ (.inl (4, [.inr rp, .inr ra, .inr (.inl (some (n + 1))), .inr (.inl none), .inr (.inl none), .inl 0, .inl 0, .inl 0, .inl 0, .inl 0, .inl 0, .inl 0]) :: .inr (.inr (3, q.1)) :: q.2)) (n := n + 142) (z := z + 1185) (by rw [List.length_append, hn, List.length_cons, List.length_cons, hq] <;> rfl)
  have e2 := in_97 (X := X) (g := g ++ (.inl (4, [.inr rp, .inr ra, .inr (.inl (some (n + 1))), .inr (.inl (some (n + 142))), .inr (.inl none), .inl 0, .inl 0, .inl 0, .inl 0, .inl 0, .inl 0, .inl 0]) :: .inr (.inr (3, q.1)) :: (q.2 ++ in_kr (n + 142)))) (n := n + 146) (z := z + 3211) (by rw [List.length_append, hn, List.length_cons, List.length_cons, List.length_append, hq] <;> rfl)
  simp only [List.append_assoc, List.cons_append, List.nil_append, List.append_nil, List.length_append, List.length_cons, List.length_nil, List.set_cons_zero, List.set_cons_succ, Nat.add_assoc, Nat.reduceAdd, Nat.zero_add, jc_new0, jc_new1, jc_new2, jc_new3, jc_new4, jc_new5, jc_new6, jc_new7, jc_new8, jc_new9, in_kc, in_kf, in_kn, in_ko, in_kr, in_ka] at e1 e2
  simp (disch := first | assumption | (simp; done)) only [ii_112_25, ii_112_26, ii_112_28, ii_112_50, ii_112_51, ii_112_54, ii_112_55, ii_112_58, ii_112_61, ii_112_62, ii_112_65, ii_112_66, ii_112_69, ii_112_72, ii_112_73, ii_112_74, ii_112_77, hn, hq, c1, e1, e2, je_c0, if_true, ↓reduceIte, List.append_assoc, List.cons_append, List.nil_append, List.append_nil, List.length_append, List.length_cons, List.length_nil, List.set_cons_zero, List.set_cons_succ, Nat.add_assoc, Nat.reduceAdd, Nat.zero_add, jc_new0, jc_new1, jc_new2, jc_new3, jc_new4, jc_new5, jc_new6, jc_new7, jc_new8, jc_new9, in_kc, in_kf, in_kn, in_ko, in_kr, in_ka]
def in_kS (n : Nat) : jm_H := (.inl (0, [.inr (.inl (some (n + 1))), .inr (.inl (some (n + 67))), .inr (.inl (some (n + 69)))]) :: .inl (1, [.inr (.inl (some (n + 2))), .inl 0]) :: .inr (.inr (2, (in_pF (n + 1) 8).1)) :: ((in_pF (n + 1) 8).2 ++ (in_ka (n + 67) ++ (.inl (4, [.inr (.inl (some (n + 1))), .inr (.inl (some (n + 67))), .inr (.inl (some (n + 70))), .inr (.inl (some (n + 211))), .inr (.inl (some (n + 215))), .inl 0, .inl 0, .inl 0, .inl 0, .inl (-1), .inl 0, .inl 0]) :: .inr (.inr (3, (in_rF (n + 69) 20).1)) :: ((in_rF (n + 69) 20).2 ++ (in_kr (n + 211) ++ in_ko (n + 215)))))))
theorem in_1 (hn : g.length = n) : je X 1 0 [some (.inr (.inl (some n)))] [] (g ++ [.inl (0, jc_new0)], z) = some (none, (g ++ in_kS n, z + 5475)) := by
  have hq := in_pF_l2 (n := n + 1) 8
  simp only [Nat.reduceMul] at hq
  have e1 := in_101 (X := X) (g := g ++ [.inl (0, jc_new0)]) (n := n + 1) (z := z + 2) (by rw [List.length_append, hn] <;> rfl)
  have e2 := in_64 (X := X) (g := g ++ (.inl (0, [.inr (.inl (some (n + 1))), .inr (.inl none), .inr (.inl none)]) :: .inl (1, [.inr (.inl (some (n + 2))), .inl 0]) :: .inr (.inr (2, (in_pF (n + 1) 8).1)) :: (in_pF (n + 1) 8).2)) (n := n + 67) (z := z + 1868) (by rw [List.length_append, hn, List.length_cons, List.length_cons, List.length_cons, hq] <;> rfl)
  have e3 := in_112 (X := X) (rp := .inl (some (n + 1))) (ra := .inl (some (n + 67))) (g := g ++ (.inl (0, [.inr (.inl (some (n + 1))), .inr (.inl (some (n + 67))), .inr (.inl none)]) :: .inl (1, [.inr (.inl (some (n + 2))), .inl 0]) :: .inr (.inr (2, (in_pF (n + 1) 8).1)) :: ((in_pF (n + 1) 8).2 ++ in_ka (n + 67)))) (n := n + 69) (z := z + 1944) (by rw [List.length_append, hn, List.length_cons, List.length_cons, List.length_cons, List.length_append, hq] <;> rfl)
  simp only [List.append_assoc, List.cons_append, List.nil_append, List.append_nil, List.length_append, List.length_cons, List.length_nil, List.set_cons_zero, List.set_cons_succ, Nat.add_assoc, Nat.reduceAdd, Nat.zero_add, jc_new0, jc_new1, jc_new2, jc_new3, jc_new4, jc_new5, jc_new6, jc_new7, jc_new8, jc_new9, in_kc, in_kf, in_kn, in_ko, in_kr, in_ka] at e1 e2 e3
  simp (disch := first | assumption | (simp; done)) only [ii_1_0, ii_1_1, ii_1_4, ii_1_5, ii_1_8, ii_1_9, ii_1_12, ii_1_15, ii_1_16, ii_1_19, ii_1_20, ii_1_23, ii_1_26, ii_1_27, ii_1_30, ii_1_31, ii_1_32, ii_1_35, ii_1_36, ii_1_39, ii_1_42, ii_1_45, hn, hq, e1, e2, e3, je_c0, in_kS, List.append_assoc, List.cons_append, List.nil_append, List.append_nil, List.length_append, List.length_cons, List.length_nil, List.set_cons_zero, List.set_cons_succ, Nat.add_assoc, Nat.reduceAdd, Nat.zero_add, jc_new0, jc_new1, jc_new2, jc_new3, jc_new4, jc_new5, jc_new6, jc_new7, jc_new8, jc_new9, in_kc, in_kf, in_kn, in_ko, in_kr, in_ka]
def in_iV (a k : Nat) : Int32 := if a = 69 then (if k = 9 then -1 else 0) else 0
def in_iw (k : Nat) : Int32 := if k = 17 then -1 else 0
set_option maxRecDepth 100000 in
set_option maxHeartbeats 4000000 in
theorem in_hp : in_kS 0 ++ in_km 217 = hp in_iV (fun _ _ => 0) in_iw (fun _ _ => 0) := by
  rfl
theorem in_hlen {V A B : Nat → Nat → Int32} {w : Nat → Int32} : (hp V A w B).length = 242 := by
  unfold hp
  rw [List.length_append, hp_lenI, jx_hp_len] <;> rfl
theorem in_rl : rl_all 0 in_iV (fun _ _ => 0) in_iw (fun _ _ => 0) :=
  ⟨0, 0, fun _ => 0, fun _ => 0, fun _ => 0, fun _ => 0, ⟨by first | rfl | decide, by first | rfl | decide, by first | rfl | decide, fun f h => absurd h (Nat.not_lt_zero f)⟩, ⟨by first | rfl | decide, by first | rfl | decide, by first | rfl | decide, fun f h => absurd h (Nat.not_lt_zero f)⟩, .inl ⟨by first | rfl | decide, by first | rfl | decide, by first | rfl | decide, by first | rfl | decide, by first | rfl | decide, by first | rfl | decide, by first | rfl | decide, by first | rfl | decide, by first | rfl | decide, by first | rfl | decide, by first | rfl | decide⟩⟩
theorem in_law : je X 0 0 (jm_loc (jm_mx 0) [.inr (.inr ())]) [] ([], 0) = je X 0 18 [some (.inr (.inr ())), some (.inr (.inl (some 0))), some (.inr (.inl (some 217))), some (.inl (nI (5 * 0)))] [] (hp in_iV (fun _ _ => 0) in_iw (fun _ _ => 0), 10744) := by
  have e1 := in_1 (X := X) (g := []) (n := 0) (z := 3) rfl
  have hl : (in_kS 0).length = 217 := by
    have h := congrArg List.length in_hp
    rw [List.length_append, in_hlen] at h
    have h2 : (in_km 217).length = 25 := rfl
    rw [h2] at h
    omega
  have e2 := in_19 (X := X) (g := in_kS 0) (n := 217) (z := 5514) hl
  rw [in_hp] at e2
  have s1 : je X 0 0 (jm_loc (jm_mx 0) [.inr (.inr ())]) [] ([], 0) = je X 0 8 [some (.inr (.inr ())), some (.inr (.inl (some 0))), none, none] [] (in_kS 0, 5478) := by
    show je X 0 0 [some (.inr (.inr ())), none, none, none] [] (([] : jm_H) ++ [], 0) = _
    rw [ii_0_0, ii_0_3, ii_0_4 (S := [.inr (.inl (some (([] : jm_H).length + ([] : jm_H).length)))]) (by decide)]
    rw [show je X 1 0 [some (.inr (.inl (some (([] : jm_H).length + ([] : jm_H).length))))] [] (([] : jm_H) ++ ([] ++ [.inl (0, jc_new0)]), 0 + 3) = _ from e1]
    rw [je_c0, ii_0_7] <;> rfl
  have s2 : je X 0 8 [some (.inr (.inr ())), some (.inr (.inl (some 0))), none, none] [] (in_kS 0, 5478) = je X 0 11 [some (.inr (.inr ())), some (.inr (.inl (some 0))), none, none] [.inr (.inl (some 217))] (in_kS 0 ++ [.inl (9, jc_new9)], 5514) := by
    have h := ii_0_8 (X := X) (L := [some (.inr (.inr ())), some (.inr (.inl (some 0))), none, none]) (S := []) (g := in_kS 0) (l := []) (z := 5478)
    rw [List.append_nil, hl] at h
    exact h
  rw [s1, s2, ii_0_11, ii_0_12 (S := [.inr (.inl (some 217))]) (by decide), e2, je_c0, ii_0_15, r_law_law_16, r_law_law_17] <;> rfl
end JI
