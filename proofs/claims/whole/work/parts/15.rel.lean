/-! CLASS AND REFERENCE SIDE BY SIDE. V, A: the class's numbers; w, B: the reference's. -/
def rl_lc (nf : Nat) (la : Nat → Nat) (f : Nat) : Nat := if f < nf then la f else 0
/-- a value: its kind is the same; an int is the same, of a row the class keeps its length -/
def rl_cell (r : Nat) (B : Nat → Nat → Int32) (a kd b row : Int32) : Prop := kd = row ∧ ∃ q, q ≤ r ∧ row = nI q ∧ (q = 0 → a = b) ∧ (0 < q → a = B 239 q)
/-- frame k -/
def rl_frm (nf r : Nat) (la fn ht : Nat → Nat) (V A B : Nat → Nat → Int32) (k : Nat) : Prop :=
  V (71 + 7 * k) 2 = nI (fn k) ∧ B 231 k = nI (fn k) ∧ fn k < 8 ∧ (fn k < nf ∨ fn k = 0) ∧ V (71 + 7 * k) 3 = B 232 k ∧
  V (72 + 7 * k) 2 = nI (ht k) ∧ B 233 k = nI (ht k) ∧ ht k ≤ 16 ∧
  (∀ i, i < ht k → rl_cell r B (A (73 + 7 * k) i) (A (74 + 7 * k) i) (B 234 (16 * k + i)) (B 235 (16 * k + i))) ∧
  V (75 + 7 * k) 2 = nI (rl_lc nf la (fn k)) ∧
  (∀ i, i < rl_lc nf la (fn k) → rl_cell r B (A (76 + 7 * k) i) (A (77 + 7 * k) i) (B 236 (8 * k + i)) (B 237 (8 * k + i)))
/-- function f: params, locals, size, handlers -/
def rl_fun (pa la sz nh : Nat → Nat) (V A B : Nat → Nat → Int32) (f : Nat) : Prop :=
  V (3 + 8 * f) 7 = nI (pa f) ∧ B 218 f = nI (pa f) ∧ pa f ≤ 4 ∧ V (3 + 8 * f) 8 = nI (la f) ∧ B 219 f = nI (la f) ∧ pa f ≤ la f ∧ la f ≤ 8 ∧
  V (3 + 8 * f) 9 = B 220 f ∧ (B 220 f = 0 ∨ B 220 f = 1) ∧ V (3 + 8 * f) 10 = nI (sz f) ∧ B 221 f = nI (sz f) ∧ sz f ≤ 100 ∧
  (∀ i, i < sz f → A (4 + 8 * f) i = B 222 (100 * f + i) ∧ A (5 + 8 * f) i = B 223 (100 * f + i) ∧ ∃ op, op ≤ 28 ∧ B 222 (100 * f + i) = nI op) ∧
  V (3 + 8 * f) 11 = nI (nh f) ∧ B 224 f = nI (nh f) ∧ nh f ≤ 4 ∧
  (∀ j, j < nh f → A (6 + 8 * f) j = B 225 (4 * f + j) ∧ A (7 + 8 * f) j = B 226 (4 * f + j) ∧ A (8 + 8 * f) j = B 227 (4 * f + j) ∧ (∃ t, t ≤ 100 ∧ B 227 (4 * f + j) = nI t) ∧
    ((A (10 + 8 * f) j = 0 ∧ B 228 (4 * f + j) = 1) ∨ (A (10 + 8 * f) j = 1 ∧ B 228 (4 * f + j) = 0 ∧ A (9 + 8 * f) j = B 229 (4 * f + j))))
def rl_prog (nf : Nat) (pa la sz nh : Nat → Nat) (V A : Nat → Nat → Int32) (w : Nat → Int32) (B : Nat → Nat → Int32) : Prop :=
  V 1 1 = nI nf ∧ w 1 = nI nf ∧ nf ≤ 8 ∧ ∀ f, f < nf → rl_fun pa la sz nh V A B f
def rl_ans (na : Nat) (V A : Nat → Nat → Int32) (w : Nat → Int32) (B : Nat → Nat → Int32) : Prop :=
  V 67 1 = nI na ∧ w 15 = nI na ∧ na ≤ 64 ∧ ∀ i, i < na → A 68 i = B 230 i
/-- rows and calls outside of a run -/
def rl_row (r u o : Nat) (V A : Nat → Nat → Int32) (w : Nat → Int32) (B : Nat → Nat → Int32) : Prop :=
  V 211 3 = nI r ∧ w 30 = nI r ∧ r ≤ 500 ∧ V 211 4 = nI u ∧ w 31 = nI u ∧ u ≤ 1024 ∧
  (∀ j, j < r → ∃ a n, A 213 j = nI a ∧ B 238 (j + 1) = nI a ∧ A 214 j = nI n ∧ B 239 (j + 1) = nI n ∧ n ≤ 64 ∧ a + n ≤ u) ∧
  (∀ i, i < u → A 212 i = B 240 i) ∧ V 215 1 = nI o ∧ w 20 = nI o ∧ (∀ i, i < 5 * o → i < 320 → A 216 i = B 241 i)
/-- a run: D frames, s steps -/
def rl_run (nf : Nat) (la : Nat → Nat) (D s r u o : Nat) (fn ht : Nat → Nat) (V A : Nat → Nat → Int32) (w : Nat → Int32) (B : Nat → Nat → Int32) : Prop :=
  V 69 6 = nI D ∧ w 22 = nI D ∧ D ≤ 20 ∧ V 69 7 = w 21 ∧ V 69 8 = nI s ∧ w 19 = nI s ∧ V 69 9 = w 17 ∧ V 69 10 = w 18 ∧ (w 17 = -1 ↔ 0 < D) ∧ (w 17 = -1 → w 18 = 0) ∧ o ≤ s ∧
  rl_row r u o V A w B ∧ ∀ k, k < D → rl_frm nf r la fn ht V A B k
/-- what a step leaves as it is -/
def rl_same (V A : Nat → Nat → Int32) (w : Nat → Int32) (B V' A' : Nat → Nat → Int32) (w' : Nat → Int32) (B' : Nat → Nat → Int32) : Prop :=
  (∀ a, a < 69 → V' a = V a) ∧ (∀ a, a < 69 → A' a = A a) ∧ V' 69 5 = V 69 5 ∧ (∀ a, a < 231 → B' a = B a) ∧ w' 1 = w 1 ∧ w' 15 = w 15 ∧ w' 16 = w 16
/-- one step of both -/
def rl_step (X : jm_X) (nf : Nat) (la : Nat → Nat) (s : Nat) (V A : Nat → Nat → Int32) (w : Nat → Int32) (B : Nat → Nat → Int32) : Prop :=
  ∃ (V' A' : Nat → Nat → Int32) (w' : Nat → Int32) (B' : Nat → Nat → Int32), (∀ w0 B0 z, je X 118 0 [some (.inr (.inl (some 69))), none, none] [] (hp V A w0 B0, z) = some (none, (hp V' A' w0 B0, z))) ∧
    (∀ V0 A0 z, je X 53 0 [some (.inr (.inl (some 217))), none, none, none, none, none] [] (hp V0 A0 (upd w 19 (nI (s + 1))) B, z) = some (none, (hp V0 A0 w' B', z))) ∧
    rl_same V A w B V' A' w' B' ∧ ∃ (D' r' u' o' : Nat) (fn' ht' : Nat → Nat), rl_run nf la D' (s + 1) r' u' o' fn' ht' V' A' w' B'
