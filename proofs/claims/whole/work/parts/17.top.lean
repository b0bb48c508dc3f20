section TP
variable {X : jm_X} {V A V' A' : Nat → Nat → Int32} {w w' : Nat → Int32} {B B' : Nat → Nat → Int32} {d i nf s r u o r' u' o' n : Nat} {pa la sz nh fn ht fn' ht' : Nat → Nat}
/-- a frame that a step doesn't touch -/
theorem rl_keep {k : Nat} (H : rl_frm nf r la fn ht V A B k) (h1 : V' (71 + 7 * k) = V (71 + 7 * k)) (h2 : V' (72 + 7 * k) = V (72 + 7 * k)) (h3 : V' (75 + 7 * k) = V (75 + 7 * k)) (a1 : A' (73 + 7 * k) = A (73 + 7 * k)) (a2 : A' (74 + 7 * k) = A (74 + 7 * k)) (a3 : A' (76 + 7 * k) = A (76 + 7 * k)) (a4 : A' (77 + 7 * k) = A (77 + 7 * k)) (b1 : B' 231 k = B 231 k) (b2 : B' 232 k = B 232 k) (b3 : B' 233 k = B 233 k) (b4 : ∀ i, i < 16 → B' 234 (16 * k + i) = B 234 (16 * k + i)) (b5 : ∀ i, i < 16 → B' 235 (16 * k + i) = B 235 (16 * k + i)) (b6 : ∀ i, i < 8 → B' 236 (8 * k + i) = B 236 (8 * k + i)) (b7 : ∀ i, i < 8 → B' 237 (8 * k + i) = B 237 (8 * k + i)) (hl : ∀ f, f < nf → la f ≤ 8) (hr : r ≤ r') (b8 : ∀ q, q ≤ r → B' 239 q = B 239 q) (hf : fn' k = fn k) (hh : ht' k = ht k) : rl_frm nf r' la fn' ht' V' A' B' k := by
  obtain ⟨g1, g2, g3, g4, g5, g6, g7, g8, g9, g10, g11⟩ := H
  have cell : ∀ {a kd b row : Int32}, rl_cell r B a kd b row → rl_cell r' B' a kd b row := by
    rintro a kd b row ⟨c1, q, c2, c3, c4, c5⟩
    exact ⟨c1, q, Nat.le_trans c2 hr, c3, c4, fun z => by rw [b8 q c2]; exact c5 z⟩
  have l8 : rl_lc nf la (fn k) ≤ 8 := by
    unfold rl_lc
    split
    · exact hl _ (by assumption)
    · omega
  unfold rl_frm
  rw [hf, hh, h1, h2, h3, a1, a2, a3, a4, b1, b2, b3]
  refine ⟨g1, g2, g3, g4, g5, g6, g7, g8, fun i hi => ?_, g10, fun i hi => ?_⟩
  · rw [b4 i (by omega), b5 i (by omega)]
    exact cell (g9 i hi)
  · rw [b6 i (by omega), b7 i (by omega)]
    exact cell (g11 i hi)
theorem rl_cellB {a kd b row : Int32} (h : B' 239 = B 239) (c : rl_cell r B a kd b row) : rl_cell r B' a kd b row := by
  unfold rl_cell
  rw [h]
  exact c
theorem rl_int {a kd b row : Int32} (hr : r ≤ 500) (c : rl_cell r B a kd b row) (h : row = 0) : a = b ∧ kd = 0 := by
  obtain ⟨c1, q, c2, c3, c4, c5⟩ := c
  have : q = 0 := by
    rw [h] at c3
    have := (nI_eq (a := 0) (b := q) (by decide) (by omega)).mp c3
    omega
  exact ⟨c4 this, c1.trans h⟩
theorem rl_kind {a kd b row : Int32} (hr : r ≤ 500) (c : rl_cell r B a kd b row) : ¬ kd = -1 := by
  obtain ⟨c1, q, c2, c3, -⟩ := c
  rw [c1, c3]
  intro h
  have h1 := nI_toInt (n := q) (by omega)
  rw [h] at h1
  have h2 : (-1 : Int32).toInt = -1 := by decide
  omega
theorem rl_len {a kd b row : Int32} {q : Nat} (hr : r ≤ 500) (c : rl_cell r B a kd b row) (hqr : q ≤ r) (hq : 0 < q) (h : row = nI q) : a = B 239 q := by
  obtain ⟨c1, q2, c2, c3, c4, c5⟩ := c
  have e : q2 = q := (nI_eq (by omega) (by omega)).mp (c3.symm.trans h)
  subst e
  exact c5 hq
theorem rl_new0 {v x : Int32} (h : v = x) : rl_cell r B v 0 x 0 := ⟨rfl, 0, Nat.zero_le _, rfl, fun _ => h, fun z => absurd z (Nat.lt_irrefl 0)⟩
theorem rl_push {f g F G : Nat → Int32} {m : Nat} {v k v2 k2 : Int32} (H : ∀ i, i < n → rl_cell r B (f i) (g i) (F (m + i)) (G (m + i))) (c : rl_cell r B v k v2 k2) : ∀ i, i < n + 1 → rl_cell r B (upd f n v i) (upd g n k i) (upd F (m + n) v2 (m + i)) (upd G (m + n) k2 (m + i)) := by
  intro i hi
  by_cases e : i = n
  · subst e
    rw [pk_us, pk_us, pk_us, pk_us]
    exact c
  · rw [pk_un e, pk_un e, pk_un (by omega), pk_un (by omega)]
    exact H i (by omega)
/-- a step that changes the top frame alone -/
theorem rl_top (hl : ∀ f, f < nf → la f ≤ 8) (R : rl_run nf la (d + 1) s r u o fn ht V A w B)
    (hV : ∀ a, a < 211 → a ≠ 69 → a ≠ 71 + 7 * d → a ≠ 72 + 7 * d → a ≠ 75 + 7 * d → V' a = V a) (hA : ∀ a, a < 211 → a ≠ 73 + 7 * d → a ≠ 74 + 7 * d → a ≠ 76 + 7 * d → a ≠ 77 + 7 * d → A' a = A a)
    (v6 : V' 69 6 = V 69 6) (v7 : V' 69 7 = V 69 7) (v8 : V' 69 8 = nI (s + 1)) (v9 : V' 69 9 = V 69 9) (v10 : V' 69 10 = V 69 10) (w22 : w' 22 = w 22) (w21 : w' 21 = w 21) (w19 : w' 19 = nI (s + 1)) (w17 : w' 17 = w 17) (w18 : w' 18 = w 18)
    (b1 : ∀ k, k < d → B' 231 k = B 231 k) (b2 : ∀ k, k < d → B' 232 k = B 232 k) (b3 : ∀ k, k < d → B' 233 k = B 233 k) (b4 : ∀ j, j < 16 * d → B' 234 j = B 234 j) (b5 : ∀ j, j < 16 * d → B' 235 j = B 235 j) (b6 : ∀ j, j < 8 * d → B' 236 j = B 236 j) (b7 : ∀ j, j < 8 * d → B' 237 j = B 237 j) (b8 : ∀ q, q ≤ r → B' 239 q = B 239 q)
    (hr : r ≤ r') (ho : o' ≤ s + 1) (hrow : rl_row r' u' o' V' A' w' B') (hf : ∀ k, k < d → fn' k = fn k) (hh : ∀ k, k < d → ht' k = ht k) (htop : rl_frm nf r' la fn' ht' V' A' B' d) : rl_run nf la (d + 1) (s + 1) r' u' o' fn' ht' V' A' w' B' := by
  obtain ⟨g1, g2, g3, g4, g5, g6, g7, g8, g9, g10, g11, g12, g13⟩ := R
  refine ⟨v6.trans g1, w22.trans g2, g3, by rw [v7, w21]; exact g4, v8, w19, by rw [v9, w17]; exact g7, by rw [v10, w18]; exact g8, by rw [w17]; exact g9, by rw [w17, w18]; exact g10, ho, hrow, fun k hk => ?_⟩
  by_cases e : k = d
  · subst e
    exact htop
  · have hkd : k < d := by omega
    exact rl_keep (g13 k hk) (hV _ (by omega) (by omega) (by omega) (by omega) (by omega)) (hV _ (by omega) (by omega) (by omega) (by omega) (by omega)) (hV _ (by omega) (by omega) (by omega) (by omega) (by omega)) (hA _ (by omega) (by omega) (by omega) (by omega) (by omega)) (hA _ (by omega) (by omega) (by omega) (by omega) (by omega)) (hA _ (by omega) (by omega) (by omega) (by omega) (by omega)) (hA _ (by omega) (by omega) (by omega) (by omega) (by omega)) (b1 k hkd) (b2 k hkd) (b3 k hkd) (fun i hi => b4 _ (by omega)) (fun i hi => b5 _ (by omega)) (fun i hi => b6 _ (by omega)) (fun i hi => b7 _ (by omega)) hl hr b8 (hf k hkd) (hh k hkd)
theorem rl_rowE (H : rl_row r u o V A w B) (v1 : V' 211 = V 211) (v2 : V' 215 = V 215) (a1 : A' 212 = A 212) (a2 : A' 213 = A 213) (a3 : A' 214 = A 214) (a4 : A' 216 = A 216) (w1 : w' 30 = w 30) (w2 : w' 31 = w 31) (w3 : w' 20 = w 20) (b1 : B' 238 = B 238) (b2 : B' 239 = B 239) (b3 : B' 240 = B 240) (b4 : B' 241 = B 241) : rl_row r u o V' A' w' B' := by
  unfold rl_row at H ⊢
  rw [v1, v2, a1, a2, a3, a4, w1, w2, w3, b1, b2, b3, b4]
  exact H
/-- one number of the rows is written, on both sides -/
theorem rl_rowS {m : Nat} {x : Int32} (H : rl_row r u o V A w B) (v1 : V' 211 = V 211) (v2 : V' 215 = V 215) (a1 : A' 212 = upd (A 212) m x) (a2 : A' 213 = A 213) (a3 : A' 214 = A 214) (a4 : A' 216 = A 216) (w1 : w' 30 = w 30) (w2 : w' 31 = w 31) (w3 : w' 20 = w 20) (b1 : B' 238 = B 238) (b2 : B' 239 = B 239) (b3 : B' 240 = upd (B 240) m x) (b4 : B' 241 = B 241) : rl_row r u o V' A' w' B' := by
  obtain ⟨y1, y2, y3, y4, y5, y6, y7, y8, y9, y10, y11⟩ := H
  unfold rl_row
  rw [v1, v2, a1, a2, a3, a4, w1, w2, w3, b1, b2, b3, b4]
  refine ⟨y1, y2, y3, y4, y5, y6, y7, fun i hi => ?_, y9, y10, y11⟩
  unfold upd
  split
  · rfl
  · exact y8 i hi
/-- the run ends -/
theorem rl_end0 (R : rl_run nf la (d + 1) s r u o fn ht V A w B) (v6 : V' 69 6 = 0) (w22 : w' 22 = 0) (v7 : V' 69 7 = V 69 7) (w21 : w' 21 = w 21) (v8 : V' 69 8 = nI (s + 1)) (w19 : w' 19 = nI (s + 1)) (e9 : V' 69 9 = w' 17) (hne : w' 17 ≠ -1) (e10 : V' 69 10 = w' 18) (hrow : rl_row r u o V' A' w' B') : rl_run nf la 0 (s + 1) r u o fn ht V' A' w' B' := by
  obtain ⟨g1, g2, g3, g4, g5, g6, g7, g8, g9, g10, g11, g12, g13⟩ := R
  exact ⟨v6, w22, by omega, by rw [v7, w21]; exact g4, v8, w19, e9, e10, ⟨fun h => absurd h hne, fun h => absurd h (Nat.lt_irrefl 0)⟩, fun h => absurd h hne, Nat.le_succ_of_le g11, hrow, fun k hk => absurd hk (Nat.not_lt_zero k)⟩
end TP
