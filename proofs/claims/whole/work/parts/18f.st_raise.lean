theorem rl_un_lt {B : Nat → Nat → Int32} {fn nh : Nat → Nat} {code : Int32} : ∀ (D k t : Nat), rl_un B fn nh code D = some (k, t) → k < D := by
  intro D
  induction D with
  | zero => intro k t h; cases h
  | succ d ih =>
    intro k t h
    unfold rl_un at h
    split at h
    · cases h; omega
    · have := ih k t h
      omega
section SR
variable {X : jm_X} {V A V' A' : Nat → Nat → Int32} {w w' : Nat → Int32} {B B' : Nat → Nat → Int32} {d k nf s r u o : Nat} {pa la sz nh fn ht ht' : Nat → Nat} {code : Int32}
/-- the run goes on in frame k -/
theorem rl_cut (hl : ∀ f, f < nf → la f ≤ 8) (R : rl_run nf la (d + 1) s r u o fn ht V A w B) (hk : k ≤ d)
    (hV : ∀ a, a < 211 → a ≠ 69 → a ≠ 71 + 7 * k → a ≠ 72 + 7 * k → a ≠ 75 + 7 * k → V' a = V a) (hA : ∀ a, a < 211 → a ≠ 73 + 7 * k → a ≠ 74 + 7 * k → a ≠ 76 + 7 * k → a ≠ 77 + 7 * k → A' a = A a)
    (v6 : V' 69 6 = nI (k + 1)) (v7 : V' 69 7 = V 69 7) (v8 : V' 69 8 = nI (s + 1)) (v9 : V' 69 9 = V 69 9) (v10 : V' 69 10 = V 69 10) (w22 : w' 22 = nI (k + 1)) (w21 : w' 21 = w 21) (w19 : w' 19 = nI (s + 1)) (w17 : w' 17 = w 17) (w18 : w' 18 = w 18)
    (b1 : ∀ j, j < k → B' 231 j = B 231 j) (b2 : ∀ j, j < k → B' 232 j = B 232 j) (b3 : ∀ j, j < k → B' 233 j = B 233 j) (b4 : ∀ j, j < 16 * k → B' 234 j = B 234 j) (b5 : ∀ j, j < 16 * k → B' 235 j = B 235 j) (b6 : ∀ j, j < 8 * k → B' 236 j = B 236 j) (b7 : ∀ j, j < 8 * k → B' 237 j = B 237 j) (b8 : ∀ q, q ≤ r → B' 239 q = B 239 q)
    (hrow : rl_row r u o V' A' w' B') (hh : ∀ j, j < k → ht' j = ht j) (htop : rl_frm nf r la fn ht' V' A' B' k) : rl_run nf la (k + 1) (s + 1) r u o fn ht' V' A' w' B' := by
  obtain ⟨g1, g2, g3, g4, g5, g6, g7, g8, g9, g10, g11, g12, g13⟩ := R
  refine ⟨v6, w22, by omega, by rw [v7, w21]; exact g4, v8, w19, by rw [v9, w17]; exact g7, by rw [v10, w18]; exact g8, by rw [w17]; exact ⟨fun _ => by omega, fun _ => g9.mpr (by omega)⟩, by rw [w17, w18]; exact g10, Nat.le_succ_of_le g11, hrow, fun j hj => ?_⟩
  by_cases e : j = k
  · subst e
    exact htop
  · have hjk : j < k := by omega
    exact rl_keep (g13 j (by omega)) (hV _ (by omega) (by omega) (by omega) (by omega) (by omega)) (hV _ (by omega) (by omega) (by omega) (by omega) (by omega)) (hV _ (by omega) (by omega) (by omega) (by omega) (by omega)) (hA _ (by omega) (by omega) (by omega) (by omega) (by omega)) (hA _ (by omega) (by omega) (by omega) (by omega) (by omega)) (hA _ (by omega) (by omega) (by omega) (by omega) (by omega)) (hA _ (by omega) (by omega) (by omega) (by omega) (by omega)) (b1 j hjk) (b2 j hjk) (b3 j hjk) (fun i hi => b4 _ (by omega)) (fun i hi => b5 _ (by omega)) (fun i hi => b6 _ (by omega)) (fun i hi => b7 _ (by omega)) hl (Nat.le_refl _) b8 rfl (hh j hjk)
theorem st_raise (P : rl_prog nf pa la sz nh V A w B) (R : rl_run nf la (d + 1) s r u o fn ht V A w B) (hfn : fn d < nf)
    (hI : ∀ (w0 : Nat → Int32) (B0 : Nat → Nat → Int32) (z : Nat) (Y : jm_S), je X 138 0 [some (.inr (.inl (some 69))), none, none, none] [] (hp (va_up V 69 (upd (upd (V 69) 8 (nI (s + 1))) 11 code)) A w0 B0, z) = some (none, Y) → je X 118 0 [some (.inr (.inl (some 69))), none, none] [] (hp V A w0 B0, z) = some (none, Y))
    (hM : ∀ (V0 A0 : Nat → Nat → Int32) (z : Nat) (Y : jm_S), je X 42 0 [some (.inr (.inl (some 217))), some (.inl code), none, none, none] [] (hp V0 A0 (upd w 19 (nI (s + 1))) B, z) = some (none, Y) → je X 53 0 [some (.inr (.inl (some 217))), none, none, none, none, none] [] (hp V0 A0 (upd w 19 (nI (s + 1))) B, z) = some (none, Y)) : rl_step X nf la s V A w B := by
  have hR := R
  obtain ⟨p1, p2, p3, p4⟩ := P
  have hl : ∀ f, f < nf → la f ≤ 8 := fun f hf => (p4 f hf).2.2.2.2.2.2.1
  obtain ⟨g1, g2, g3, g4, g5, g6, g7, g8, g9, g10, g11, g12, g13⟩ := R
  have hall : ∀ k, k < d + 1 → fn k < nf := fun k hk => by
    rcases (g13 k hk).2.2.2.1 with h | h
    · exact h
    · omega
  have eI := fun (w0 : Nat → Int32) (B0 : Nat → Nat → Int32) (z : Nat) => i_unwind (X := X) (A := A) (B := B) (w0 := w0) (B0 := B0) (z := z) (pa := pa) (la := la) (sz := sz) (nh := nh) (fn := fn) (code := code) (l1 := none) (l2 := none) (l3 := none) p3 (d + 1) (va_up V 69 (upd (upd (V 69) 8 (nI (s + 1))) 11 code)) none none none g3 (by simp (disch := omega) only [va_up_self, pk_un]; exact g1) (by simp only [va_up_self, pk_us]) (by simp (disch := omega) only [jx_une]; exact p1) (fun f hf => by have q := p4 f hf; unfold rl_fun at q ⊢; rw [jx_une (by omega)]; exact q) (fun k hk => by
    simp (disch := omega) only [jx_une]
    have q := g13 k hk
    exact ⟨q.1, hall k hk, q.2.2.2.2.1⟩)
  have eM := fun (V0 A0 : Nat → Nat → Int32) (z : Nat) => m_raise (X := X) (V := V0) (A := A0) (B := B) (z := z) (nh := nh) (fn := fn) (code := code) (w := w) (d + 1) (upd w 19 (nI (s + 1))) none none none g3 (by simp (disch := omega) only [pk_un]; exact g2) (fun k hk => by
    have q := g13 k hk
    have q2 := p4 (fn k) (hall k hk)
    exact ⟨q.2.1, q.2.2.1, q2.2.2.2.2.2.2.2.2.2.2.2.2.2.2.1, q2.2.2.2.2.2.2.2.2.2.2.2.2.2.2.2.1⟩)
  rcases hU : rl_un B fn nh code (d + 1) with _ | ⟨k, t⟩
  · rw [hU] at eI eM
    refine ⟨_, _, _, _, fun w0 B0 z => hI w0 B0 z _ (eI w0 B0 z), fun V0 A0 z => hM V0 A0 z _ (eM V0 A0 z), ?_, 0, r, u, o, fn, ht, rl_end0 hR ?_ ?_ ?_ ?_ ?_ ?_ ?_ ?_ ?_ (rl_rowE g12 ?_ ?_ ?_ ?_ ?_ ?_ ?_ ?_ ?_ ?_ ?_ ?_ ?_)⟩
    · refine ⟨fun a ha => ?_, fun a ha => ?_, ?_, fun a ha => ?_, ?_, ?_, ?_⟩ <;> (try simp (disch := omega) only [va_up_self, jx_une, pk_us, pk_un])
    all_goals first | rfl | (simp (disch := omega) only [va_up_self, jx_une, pk_us, pk_un]; done) | (simp (disch := omega) only [va_up_self, jx_une, pk_us, pk_un]; decide)
  · rw [hU] at eI eM
    have hk := rl_un_lt _ _ _ hU
    obtain ⟨t1, t2, t3, t4, t5, t6, t7, t8, t9, t10, t11⟩ := g13 k hk
    refine ⟨_, _, _, _, fun w0 B0 z => hI w0 B0 z _ (eI w0 B0 z), fun V0 A0 z => hM V0 A0 z _ (eM V0 A0 z), ?_, k + 1, r, u, o, fn, fun j => if j = k then 1 else ht j, rl_cut hl hR (by omega) (fun a h1 h2 h3 h4 h5 => ?_) (fun a h1 h2 h3 h4 h5 => ?_) ?_ ?_ ?_ ?_ ?_ ?_ ?_ ?_ ?_ ?_ (fun j hj => ?_) (fun j hj => ?_) (fun j hj => ?_) (fun j hj => ?_) (fun j hj => ?_) (fun j hj => ?_) (fun j hj => ?_) (fun j hj => ?_) (rl_rowE g12 ?_ ?_ ?_ ?_ ?_ ?_ ?_ ?_ ?_ ?_ ?_ ?_ ?_) (fun j hj => if_neg (by omega)) ?_⟩
    · refine ⟨fun a ha => ?_, fun a ha => ?_, ?_, fun a ha => ?_, ?_, ?_, ?_⟩ <;> (try simp (disch := omega) only [va_up_self, jx_une, pk_us, pk_un])
    all_goals first | rfl | (simp (disch := omega) only [va_up_self, jx_une, pk_us, pk_un]; done) | skip
    unfold rl_frm
    simp (disch := omega) only [va_up_self, jx_une, pk_us, pk_un, if_true]
    refine ⟨t1, t2, t3, t4, trivial, rfl, rfl, by omega, fun i hi => ?_, t10, fun i hi => rl_cellB (B := B) (by simp (disch := omega) only [jx_une]) (t11 i hi)⟩
    have h0 : i = 0 := by omega
    subst h0
    simp only [Nat.add_zero, pk_us]
    exact rl_new0 rfl
end SR
