theorem pk_ix2 (x : Int32) {n : Nat} (hn : n < 2 ^ 31) : x < 0 ∨ (¬ x < 0 ∧ nI n ≤ x) ∨ ∃ j : Nat, j < n ∧ x = nI j := by
  by_cases h : x < 0
  · exact Or.inl h
  · rcases pk_ix x hn with h1 | h1 | h1
    · exact Or.inl h1
    · exact Or.inr (Or.inl ⟨h, h1⟩)
    · exact Or.inr (Or.inr h1)
section AL
variable {X : jm_X} {V A : Nat → Nat → Int32} {w : Nat → Int32} {B : Nat → Nat → Int32} {d i nf s r u o na : Nat} {pa la sz nh fn ht : Nat → Nat}
theorem rl_isrow {a kd b row : Int32} (c : rl_cell r B a kd b row) (h : ¬ kd ≤ 0) : ∃ q, 0 < q ∧ q ≤ r ∧ row = nI q := by
  obtain ⟨c1, q, c2, c3, -⟩ := c
  refine ⟨q, ?_, c2, c3⟩
  rcases Nat.eq_zero_or_pos q with e | e
  · subst e
    rw [c1, c3] at h
    exact absurd (by decide) h
  · exact e
theorem al_0 (P : rl_prog nf pa la sz nh V A w B) (AN : rl_ans na V A w B) (R : rl_run nf la (d + 1) s r u o fn ht V A w B) (hs : s < 1000000000) (hfn : fn d < nf) (hi : B 232 d = nI i) (his : i < sz (fn d)) (hop : B 222 (100 * fn d + i) = 0) : rl_step X nf la s V A w B := by
  have hr5 := R.2.2.2.2.2.2.2.2.2.2.2.1.2.2.1
  have hD := R.2.2.1
  have hp8 := P.2.2.1
  have hF := P.2.2.2 (fn d) hfn
  have hl := hF.2.2.2.2.2.2.1
  have hT := R.2.2.2.2.2.2.2.2.2.2.2.2 d (Nat.lt_succ_self d)
  have h16 := hT.2.2.2.2.2.2.2.1
  have t9 := hT.2.2.2.2.2.2.2.2.1
  by_cases hc : ht d < 16
  · exact st_0 P R hs hfn hi his hop hc
  · exact st_0b P R hs hfn hi his hop (by omega)
theorem al_1 (P : rl_prog nf pa la sz nh V A w B) (AN : rl_ans na V A w B) (R : rl_run nf la (d + 1) s r u o fn ht V A w B) (hs : s < 1000000000) (hfn : fn d < nf) (hi : B 232 d = nI i) (his : i < sz (fn d)) (hop : B 222 (100 * fn d + i) = 1) : rl_step X nf la s V A w B := by
  have hr5 := R.2.2.2.2.2.2.2.2.2.2.2.1.2.2.1
  have hD := R.2.2.1
  have hp8 := P.2.2.1
  have hF := P.2.2.2 (fn d) hfn
  have hl := hF.2.2.2.2.2.2.1
  have hT := R.2.2.2.2.2.2.2.2.2.2.2.2 d (Nat.lt_succ_self d)
  have h16 := hT.2.2.2.2.2.2.2.1
  have t9 := hT.2.2.2.2.2.2.2.2.1
  by_cases hc : 1 ≤ ht d
  · exact st_1 P R hs hfn hi his hop hc
  · exact st_1b P R hs hfn hi his hop (by omega)
theorem al_2 (P : rl_prog nf pa la sz nh V A w B) (AN : rl_ans na V A w B) (R : rl_run nf la (d + 1) s r u o fn ht V A w B) (hs : s < 1000000000) (hfn : fn d < nf) (hi : B 232 d = nI i) (his : i < sz (fn d)) (hop : B 222 (100 * fn d + i) = 2) : rl_step X nf la s V A w B := by
  have hr5 := R.2.2.2.2.2.2.2.2.2.2.2.1.2.2.1
  have hD := R.2.2.1
  have hp8 := P.2.2.1
  have hF := P.2.2.2 (fn d) hfn
  have hl := hF.2.2.2.2.2.2.1
  have hT := R.2.2.2.2.2.2.2.2.2.2.2.2 d (Nat.lt_succ_self d)
  have h16 := hT.2.2.2.2.2.2.2.1
  have t9 := hT.2.2.2.2.2.2.2.2.1
  by_cases hc : 1 ≤ ht d
  · by_cases hc2 : ht d < 16
    · exact st_2 P R hs hfn hi his hop hc hc2
    · exact st_2c P R hs hfn hi his hop (by omega)
  · exact st_2b P R hs hfn hi his hop (by omega)
theorem al_3 (P : rl_prog nf pa la sz nh V A w B) (AN : rl_ans na V A w B) (R : rl_run nf la (d + 1) s r u o fn ht V A w B) (hs : s < 1000000000) (hfn : fn d < nf) (hi : B 232 d = nI i) (his : i < sz (fn d)) (hop : B 222 (100 * fn d + i) = 3) : rl_step X nf la s V A w B := by
  have hr5 := R.2.2.2.2.2.2.2.2.2.2.2.1.2.2.1
  have hD := R.2.2.1
  have hp8 := P.2.2.1
  have hF := P.2.2.2 (fn d) hfn
  have hl := hF.2.2.2.2.2.2.1
  have hT := R.2.2.2.2.2.2.2.2.2.2.2.2 d (Nat.lt_succ_self d)
  have h16 := hT.2.2.2.2.2.2.2.1
  have t9 := hT.2.2.2.2.2.2.2.2.1
  by_cases hc : 2 ≤ ht d
  · exact st_3 P R hs hfn hi his hop hc
  · by_cases h0 : ht d = 0
    · exact st_3b P R hs hfn hi his hop h0
    · exact st_3c P R hs hfn hi his hop (by omega)
theorem al_4 (P : rl_prog nf pa la sz nh V A w B) (AN : rl_ans na V A w B) (R : rl_run nf la (d + 1) s r u o fn ht V A w B) (hs : s < 1000000000) (hfn : fn d < nf) (hi : B 232 d = nI i) (his : i < sz (fn d)) (hop : B 222 (100 * fn d + i) = 4) : rl_step X nf la s V A w B := by
  have hr5 := R.2.2.2.2.2.2.2.2.2.2.2.1.2.2.1
  have hD := R.2.2.1
  have hp8 := P.2.2.1
  have hF := P.2.2.2 (fn d) hfn
  have hl := hF.2.2.2.2.2.2.1
  have hT := R.2.2.2.2.2.2.2.2.2.2.2.2 d (Nat.lt_succ_self d)
  have h16 := hT.2.2.2.2.2.2.2.1
  have t9 := hT.2.2.2.2.2.2.2.2.1
  rcases pk_ix2 (B 223 (100 * fn d + i)) (n := la (fn d)) (by omega) with hv | ⟨hv0, hv⟩ | ⟨j, hj, hv⟩
  · exact st_4b P R hs hfn hi his hop hv
  · exact st_4c P R hs hfn hi his hop hv0 hv
  · by_cases hc : ht d < 16
    · exact st_4 P R hs hfn hi his hop hv hj hc
    · exact st_4d P R hs hfn hi his hop hv hj (by omega)
theorem al_5 (P : rl_prog nf pa la sz nh V A w B) (AN : rl_ans na V A w B) (R : rl_run nf la (d + 1) s r u o fn ht V A w B) (hs : s < 1000000000) (hfn : fn d < nf) (hi : B 232 d = nI i) (his : i < sz (fn d)) (hop : B 222 (100 * fn d + i) = 5) : rl_step X nf la s V A w B := by
  have hr5 := R.2.2.2.2.2.2.2.2.2.2.2.1.2.2.1
  have hD := R.2.2.1
  have hp8 := P.2.2.1
  have hF := P.2.2.2 (fn d) hfn
  have hl := hF.2.2.2.2.2.2.1
  have hT := R.2.2.2.2.2.2.2.2.2.2.2.2 d (Nat.lt_succ_self d)
  have h16 := hT.2.2.2.2.2.2.2.1
  have t9 := hT.2.2.2.2.2.2.2.2.1
  by_cases hc : 1 ≤ ht d
  · rcases pk_ix2 (B 223 (100 * fn d + i)) (n := la (fn d)) (by omega) with hv | ⟨hv0, hv⟩ | ⟨j, hj, hv⟩
    · exact st_5c P R hs hfn hi his hop hc hv
    · exact st_5d P R hs hfn hi his hop hc hv0 hv
    · exact st_5 P R hs hfn hi his hop hv hj hc
  · exact st_5b P R hs hfn hi his hop (by omega)
theorem al_6 (P : rl_prog nf pa la sz nh V A w B) (AN : rl_ans na V A w B) (R : rl_run nf la (d + 1) s r u o fn ht V A w B) (hs : s < 1000000000) (hfn : fn d < nf) (hi : B 232 d = nI i) (his : i < sz (fn d)) (hop : B 222 (100 * fn d + i) = 6) : rl_step X nf la s V A w B := by
  have hr5 := R.2.2.2.2.2.2.2.2.2.2.2.1.2.2.1
  have hD := R.2.2.1
  have hp8 := P.2.2.1
  have hF := P.2.2.2 (fn d) hfn
  have hl := hF.2.2.2.2.2.2.1
  have hT := R.2.2.2.2.2.2.2.2.2.2.2.2 d (Nat.lt_succ_self d)
  have h16 := hT.2.2.2.2.2.2.2.1
  have t9 := hT.2.2.2.2.2.2.2.2.1
  by_cases hc : 2 ≤ ht d ∧ A (74 + 7 * d) (ht d - 1) = 0 ∧ A (74 + 7 * d) (ht d - 1 - 1) = 0
  · exact st_6 P R hs hfn hi his hop hc
  · exact st_6b P R hs hfn hi his hop hc
theorem al_7 (P : rl_prog nf pa la sz nh V A w B) (AN : rl_ans na V A w B) (R : rl_run nf la (d + 1) s r u o fn ht V A w B) (hs : s < 1000000000) (hfn : fn d < nf) (hi : B 232 d = nI i) (his : i < sz (fn d)) (hop : B 222 (100 * fn d + i) = 7) : rl_step X nf la s V A w B := by
  have hr5 := R.2.2.2.2.2.2.2.2.2.2.2.1.2.2.1
  have hD := R.2.2.1
  have hp8 := P.2.2.1
  have hF := P.2.2.2 (fn d) hfn
  have hl := hF.2.2.2.2.2.2.1
  have hT := R.2.2.2.2.2.2.2.2.2.2.2.2 d (Nat.lt_succ_self d)
  have h16 := hT.2.2.2.2.2.2.2.1
  have t9 := hT.2.2.2.2.2.2.2.2.1
  by_cases hc : 2 ≤ ht d ∧ A (74 + 7 * d) (ht d - 1) = 0 ∧ A (74 + 7 * d) (ht d - 1 - 1) = 0
  · exact st_7 P R hs hfn hi his hop hc
  · exact st_7b P R hs hfn hi his hop hc
theorem al_8 (P : rl_prog nf pa la sz nh V A w B) (AN : rl_ans na V A w B) (R : rl_run nf la (d + 1) s r u o fn ht V A w B) (hs : s < 1000000000) (hfn : fn d < nf) (hi : B 232 d = nI i) (his : i < sz (fn d)) (hop : B 222 (100 * fn d + i) = 8) : rl_step X nf la s V A w B := by
  have hr5 := R.2.2.2.2.2.2.2.2.2.2.2.1.2.2.1
  have hD := R.2.2.1
  have hp8 := P.2.2.1
  have hF := P.2.2.2 (fn d) hfn
  have hl := hF.2.2.2.2.2.2.1
  have hT := R.2.2.2.2.2.2.2.2.2.2.2.2 d (Nat.lt_succ_self d)
  have h16 := hT.2.2.2.2.2.2.2.1
  have t9 := hT.2.2.2.2.2.2.2.2.1
  by_cases hc : 2 ≤ ht d ∧ A (74 + 7 * d) (ht d - 1) = 0 ∧ A (74 + 7 * d) (ht d - 1 - 1) = 0
  · exact st_8 P R hs hfn hi his hop hc
  · exact st_8b P R hs hfn hi his hop hc
theorem al_11 (P : rl_prog nf pa la sz nh V A w B) (AN : rl_ans na V A w B) (R : rl_run nf la (d + 1) s r u o fn ht V A w B) (hs : s < 1000000000) (hfn : fn d < nf) (hi : B 232 d = nI i) (his : i < sz (fn d)) (hop : B 222 (100 * fn d + i) = 11) : rl_step X nf la s V A w B := by
  have hr5 := R.2.2.2.2.2.2.2.2.2.2.2.1.2.2.1
  have hD := R.2.2.1
  have hp8 := P.2.2.1
  have hF := P.2.2.2 (fn d) hfn
  have hl := hF.2.2.2.2.2.2.1
  have hT := R.2.2.2.2.2.2.2.2.2.2.2.2 d (Nat.lt_succ_self d)
  have h16 := hT.2.2.2.2.2.2.2.1
  have t9 := hT.2.2.2.2.2.2.2.2.1
  by_cases hc : 2 ≤ ht d ∧ A (74 + 7 * d) (ht d - 1) = 0 ∧ A (74 + 7 * d) (ht d - 1 - 1) = 0
  · exact st_11 P R hs hfn hi his hop hc
  · exact st_11b P R hs hfn hi his hop hc
theorem al_12 (P : rl_prog nf pa la sz nh V A w B) (AN : rl_ans na V A w B) (R : rl_run nf la (d + 1) s r u o fn ht V A w B) (hs : s < 1000000000) (hfn : fn d < nf) (hi : B 232 d = nI i) (his : i < sz (fn d)) (hop : B 222 (100 * fn d + i) = 12) : rl_step X nf la s V A w B := by
  have hr5 := R.2.2.2.2.2.2.2.2.2.2.2.1.2.2.1
  have hD := R.2.2.1
  have hp8 := P.2.2.1
  have hF := P.2.2.2 (fn d) hfn
  have hl := hF.2.2.2.2.2.2.1
  have hT := R.2.2.2.2.2.2.2.2.2.2.2.2 d (Nat.lt_succ_self d)
  have h16 := hT.2.2.2.2.2.2.2.1
  have t9 := hT.2.2.2.2.2.2.2.2.1
  by_cases hc : 2 ≤ ht d ∧ A (74 + 7 * d) (ht d - 1) = 0 ∧ A (74 + 7 * d) (ht d - 1 - 1) = 0
  · exact st_12 P R hs hfn hi his hop hc
  · exact st_12b P R hs hfn hi his hop hc
theorem al_13 (P : rl_prog nf pa la sz nh V A w B) (AN : rl_ans na V A w B) (R : rl_run nf la (d + 1) s r u o fn ht V A w B) (hs : s < 1000000000) (hfn : fn d < nf) (hi : B 232 d = nI i) (his : i < sz (fn d)) (hop : B 222 (100 * fn d + i) = 13) : rl_step X nf la s V A w B := by
  have hr5 := R.2.2.2.2.2.2.2.2.2.2.2.1.2.2.1
  have hD := R.2.2.1
  have hp8 := P.2.2.1
  have hF := P.2.2.2 (fn d) hfn
  have hl := hF.2.2.2.2.2.2.1
  have hT := R.2.2.2.2.2.2.2.2.2.2.2.2 d (Nat.lt_succ_self d)
  have h16 := hT.2.2.2.2.2.2.2.1
  have t9 := hT.2.2.2.2.2.2.2.2.1
  by_cases hc : 2 ≤ ht d ∧ A (74 + 7 * d) (ht d - 1) = 0 ∧ A (74 + 7 * d) (ht d - 1 - 1) = 0
  · exact st_13 P R hs hfn hi his hop hc
  · exact st_13b P R hs hfn hi his hop hc
theorem al_14 (P : rl_prog nf pa la sz nh V A w B) (AN : rl_ans na V A w B) (R : rl_run nf la (d + 1) s r u o fn ht V A w B) (hs : s < 1000000000) (hfn : fn d < nf) (hi : B 232 d = nI i) (his : i < sz (fn d)) (hop : B 222 (100 * fn d + i) = 14) : rl_step X nf la s V A w B := by
  have hr5 := R.2.2.2.2.2.2.2.2.2.2.2.1.2.2.1
  have hD := R.2.2.1
  have hp8 := P.2.2.1
  have hF := P.2.2.2 (fn d) hfn
  have hl := hF.2.2.2.2.2.2.1
  have hT := R.2.2.2.2.2.2.2.2.2.2.2.2 d (Nat.lt_succ_self d)
  have h16 := hT.2.2.2.2.2.2.2.1
  have t9 := hT.2.2.2.2.2.2.2.2.1
  by_cases hc : 2 ≤ ht d ∧ A (74 + 7 * d) (ht d - 1) = 0 ∧ A (74 + 7 * d) (ht d - 1 - 1) = 0
  · exact st_14 P R hs hfn hi his hop hc
  · exact st_14b P R hs hfn hi his hop hc
theorem al_15 (P : rl_prog nf pa la sz nh V A w B) (AN : rl_ans na V A w B) (R : rl_run nf la (d + 1) s r u o fn ht V A w B) (hs : s < 1000000000) (hfn : fn d < nf) (hi : B 232 d = nI i) (his : i < sz (fn d)) (hop : B 222 (100 * fn d + i) = 15) : rl_step X nf la s V A w B := by
  have hr5 := R.2.2.2.2.2.2.2.2.2.2.2.1.2.2.1
  have hD := R.2.2.1
  have hp8 := P.2.2.1
  have hF := P.2.2.2 (fn d) hfn
  have hl := hF.2.2.2.2.2.2.1
  have hT := R.2.2.2.2.2.2.2.2.2.2.2.2 d (Nat.lt_succ_self d)
  have h16 := hT.2.2.2.2.2.2.2.1
  have t9 := hT.2.2.2.2.2.2.2.2.1
  by_cases hc : 2 ≤ ht d ∧ A (74 + 7 * d) (ht d - 1) = 0 ∧ A (74 + 7 * d) (ht d - 1 - 1) = 0
  · exact st_15 P R hs hfn hi his hop hc
  · exact st_15b P R hs hfn hi his hop hc
theorem al_9 (P : rl_prog nf pa la sz nh V A w B) (AN : rl_ans na V A w B) (R : rl_run nf la (d + 1) s r u o fn ht V A w B) (hs : s < 1000000000) (hfn : fn d < nf) (hi : B 232 d = nI i) (his : i < sz (fn d)) (hop : B 222 (100 * fn d + i) = 9) : rl_step X nf la s V A w B := by
  have hr5 := R.2.2.2.2.2.2.2.2.2.2.2.1.2.2.1
  have hD := R.2.2.1
  have hp8 := P.2.2.1
  have hF := P.2.2.2 (fn d) hfn
  have hl := hF.2.2.2.2.2.2.1
  have hT := R.2.2.2.2.2.2.2.2.2.2.2.2 d (Nat.lt_succ_self d)
  have h16 := hT.2.2.2.2.2.2.2.1
  have t9 := hT.2.2.2.2.2.2.2.2.1
  by_cases hc : 2 ≤ ht d ∧ A (74 + 7 * d) (ht d - 1) = 0 ∧ A (74 + 7 * d) (ht d - 1 - 1) = 0
  · by_cases hx : A (73 + 7 * d) (ht d - 1) = 0
    · exact st_9r P R hs hfn hi his hop hc hx
    · exact st_9 P R hs hfn hi his hop hc hx
  · exact st_9b P R hs hfn hi his hop hc
theorem al_10 (P : rl_prog nf pa la sz nh V A w B) (AN : rl_ans na V A w B) (R : rl_run nf la (d + 1) s r u o fn ht V A w B) (hs : s < 1000000000) (hfn : fn d < nf) (hi : B 232 d = nI i) (his : i < sz (fn d)) (hop : B 222 (100 * fn d + i) = 10) : rl_step X nf la s V A w B := by
  have hr5 := R.2.2.2.2.2.2.2.2.2.2.2.1.2.2.1
  have hD := R.2.2.1
  have hp8 := P.2.2.1
  have hF := P.2.2.2 (fn d) hfn
  have hl := hF.2.2.2.2.2.2.1
  have hT := R.2.2.2.2.2.2.2.2.2.2.2.2 d (Nat.lt_succ_self d)
  have h16 := hT.2.2.2.2.2.2.2.1
  have t9 := hT.2.2.2.2.2.2.2.2.1
  by_cases hc : 2 ≤ ht d ∧ A (74 + 7 * d) (ht d - 1) = 0 ∧ A (74 + 7 * d) (ht d - 1 - 1) = 0
  · by_cases hx : A (73 + 7 * d) (ht d - 1) = 0
    · exact st_10r P R hs hfn hi his hop hc hx
    · exact st_10 P R hs hfn hi his hop hc hx
  · exact st_10b P R hs hfn hi his hop hc
theorem al_16 (P : rl_prog nf pa la sz nh V A w B) (AN : rl_ans na V A w B) (R : rl_run nf la (d + 1) s r u o fn ht V A w B) (hs : s < 1000000000) (hfn : fn d < nf) (hi : B 232 d = nI i) (his : i < sz (fn d)) (hop : B 222 (100 * fn d + i) = 16) : rl_step X nf la s V A w B := by
  have hr5 := R.2.2.2.2.2.2.2.2.2.2.2.1.2.2.1
  have hD := R.2.2.1
  have hp8 := P.2.2.1
  have hF := P.2.2.2 (fn d) hfn
  have hl := hF.2.2.2.2.2.2.1
  have hT := R.2.2.2.2.2.2.2.2.2.2.2.2 d (Nat.lt_succ_self d)
  have h16 := hT.2.2.2.2.2.2.2.1
  have t9 := hT.2.2.2.2.2.2.2.2.1
  by_cases hc : 2 ≤ ht d ∧ A (74 + 7 * d) (ht d - 1) = 0 ∧ A (74 + 7 * d) (ht d - 1 - 1) = 0
  · by_cases hx : A (73 + 7 * d) (ht d - 1) ≤ A (73 + 7 * d) (ht d - 1 - 1)
    · exact st_16t P R hs hfn hi his hop hc hx
    · exact st_16f P R hs hfn hi his hop hc hx
  · exact st_16b P R hs hfn hi his hop hc
theorem al_17 (P : rl_prog nf pa la sz nh V A w B) (AN : rl_ans na V A w B) (R : rl_run nf la (d + 1) s r u o fn ht V A w B) (hs : s < 1000000000) (hfn : fn d < nf) (hi : B 232 d = nI i) (his : i < sz (fn d)) (hop : B 222 (100 * fn d + i) = 17) : rl_step X nf la s V A w B := by
  have hr5 := R.2.2.2.2.2.2.2.2.2.2.2.1.2.2.1
  have hD := R.2.2.1
  have hp8 := P.2.2.1
  have hF := P.2.2.2 (fn d) hfn
  have hl := hF.2.2.2.2.2.2.1
  have hT := R.2.2.2.2.2.2.2.2.2.2.2.2 d (Nat.lt_succ_self d)
  have h16 := hT.2.2.2.2.2.2.2.1
  have t9 := hT.2.2.2.2.2.2.2.2.1
  by_cases hc : 2 ≤ ht d ∧ A (74 + 7 * d) (ht d - 1) = 0 ∧ A (74 + 7 * d) (ht d - 1 - 1) = 0
  · by_cases hx : A (73 + 7 * d) (ht d - 1 - 1) = A (73 + 7 * d) (ht d - 1)
    · exact st_17t P R hs hfn hi his hop hc hx
    · exact st_17f P R hs hfn hi his hop hc hx
  · exact st_17b P R hs hfn hi his hop hc
theorem al_18 (P : rl_prog nf pa la sz nh V A w B) (AN : rl_ans na V A w B) (R : rl_run nf la (d + 1) s r u o fn ht V A w B) (hs : s < 1000000000) (hfn : fn d < nf) (hi : B 232 d = nI i) (his : i < sz (fn d)) (hop : B 222 (100 * fn d + i) = 18) : rl_step X nf la s V A w B := by
  have hr5 := R.2.2.2.2.2.2.2.2.2.2.2.1.2.2.1
  have hD := R.2.2.1
  have hp8 := P.2.2.1
  have hF := P.2.2.2 (fn d) hfn
  have hl := hF.2.2.2.2.2.2.1
  have hT := R.2.2.2.2.2.2.2.2.2.2.2.2 d (Nat.lt_succ_self d)
  have h16 := hT.2.2.2.2.2.2.2.1
  have t9 := hT.2.2.2.2.2.2.2.2.1
  exact st_18 P R hs hfn hi his hop
theorem al_19 (P : rl_prog nf pa la sz nh V A w B) (AN : rl_ans na V A w B) (R : rl_run nf la (d + 1) s r u o fn ht V A w B) (hs : s < 1000000000) (hfn : fn d < nf) (hi : B 232 d = nI i) (his : i < sz (fn d)) (hop : B 222 (100 * fn d + i) = 19) : rl_step X nf la s V A w B := by
  have hr5 := R.2.2.2.2.2.2.2.2.2.2.2.1.2.2.1
  have hD := R.2.2.1
  have hp8 := P.2.2.1
  have hF := P.2.2.2 (fn d) hfn
  have hl := hF.2.2.2.2.2.2.1
  have hT := R.2.2.2.2.2.2.2.2.2.2.2.2 d (Nat.lt_succ_self d)
  have h16 := hT.2.2.2.2.2.2.2.1
  have t9 := hT.2.2.2.2.2.2.2.2.1
  by_cases hc : 1 ≤ ht d ∧ A (74 + 7 * d) (ht d - 1) = 0
  · by_cases hx : A (73 + 7 * d) (ht d - 1) = 0
    · exact st_19f P R hs hfn hi his hop hc hx
    · exact st_19t P R hs hfn hi his hop hc hx
  · exact st_19b P R hs hfn hi his hop hc
theorem al_20 (P : rl_prog nf pa la sz nh V A w B) (AN : rl_ans na V A w B) (R : rl_run nf la (d + 1) s r u o fn ht V A w B) (hs : s < 1000000000) (hfn : fn d < nf) (hi : B 232 d = nI i) (his : i < sz (fn d)) (hop : B 222 (100 * fn d + i) = 20) : rl_step X nf la s V A w B := by
  have hr5 := R.2.2.2.2.2.2.2.2.2.2.2.1.2.2.1
  have hD := R.2.2.1
  have hp8 := P.2.2.1
  have hF := P.2.2.2 (fn d) hfn
  have hl := hF.2.2.2.2.2.2.1
  have hT := R.2.2.2.2.2.2.2.2.2.2.2.2 d (Nat.lt_succ_self d)
  have h16 := hT.2.2.2.2.2.2.2.1
  have t9 := hT.2.2.2.2.2.2.2.2.1
  by_cases hc : 1 ≤ ht d ∧ A (74 + 7 * d) (ht d - 1) = 0
  · by_cases hx : A (73 + 7 * d) (ht d - 1) = 0
    · exact st_20t P R hs hfn hi his hop hc hx
    · exact st_20f P R hs hfn hi his hop hc hx
  · exact st_20b P R hs hfn hi his hop hc
theorem al_21 (P : rl_prog nf pa la sz nh V A w B) (AN : rl_ans na V A w B) (R : rl_run nf la (d + 1) s r u o fn ht V A w B) (hs : s < 1000000000) (hfn : fn d < nf) (hi : B 232 d = nI i) (his : i < sz (fn d)) (hop : B 222 (100 * fn d + i) = 21) : rl_step X nf la s V A w B := by
  have hr5 := R.2.2.2.2.2.2.2.2.2.2.2.1.2.2.1
  have hD := R.2.2.1
  have hp8 := P.2.2.1
  have hF := P.2.2.2 (fn d) hfn
  have hl := hF.2.2.2.2.2.2.1
  have hT := R.2.2.2.2.2.2.2.2.2.2.2.2 d (Nat.lt_succ_self d)
  have h16 := hT.2.2.2.2.2.2.2.1
  have t9 := hT.2.2.2.2.2.2.2.2.1
  have hu := R.2.2.2.2.2.2.2.2.2.2.2.1.2.2.2.2.2.1
  by_cases hc : 1 ≤ ht d ∧ A (74 + 7 * d) (ht d - 1) = 0
  · rcases pk_ix2 (B 234 (16 * d + ht d - 1)) (n := 65) (by omega) with hn | ⟨hn0, hn⟩ | ⟨m, hm, hn⟩
    · exact st_21r1 P R hs hfn hi his hop hc hn
    · exact st_21r2 P R hs hfn hi his hop hc hn0 (Int32.lt_of_lt_of_le (by decide) hn)
    · by_cases h5 : r = 500
      · exact st_21r3 P R hs hfn hi his hop hc hn (by omega) h5
      · by_cases h6 : 1024 < u + m
        · exact st_21r4 P R hs hfn hi his hop hc hn (by omega) (by omega) h6
        · exact st_21 P R hs hfn hi his hop hc hn (by omega) (by omega) (by omega)
  · exact st_21b P R hs hfn hi his hop hc
theorem al_22 (P : rl_prog nf pa la sz nh V A w B) (AN : rl_ans na V A w B) (R : rl_run nf la (d + 1) s r u o fn ht V A w B) (hs : s < 1000000000) (hfn : fn d < nf) (hi : B 232 d = nI i) (his : i < sz (fn d)) (hop : B 222 (100 * fn d + i) = 22) : rl_step X nf la s V A w B := by
  have hr5 := R.2.2.2.2.2.2.2.2.2.2.2.1.2.2.1
  have hD := R.2.2.1
  have hp8 := P.2.2.1
  have hF := P.2.2.2 (fn d) hfn
  have hl := hF.2.2.2.2.2.2.1
  have hT := R.2.2.2.2.2.2.2.2.2.2.2.2 d (Nat.lt_succ_self d)
  have h16 := hT.2.2.2.2.2.2.2.1
  have t9 := hT.2.2.2.2.2.2.2.2.1
  by_cases ha : 1 ≤ ht d ∧ A (74 + 7 * d) (ht d - 1) = 0
  · have hk0 := (t9 (ht d - 1) (by omega)).1.symm.trans ha.2
    rw [show 16 * d + (ht d - 1) = 16 * d + ht d - 1 by omega] at hk0
    by_cases hb : 2 ≤ ht d ∧ ¬ A (74 + 7 * d) (ht d - 1 - 1) ≤ 0
    · have hc2 := hb.1
      obtain ⟨q, hq, hqr, hk⟩ := rl_isrow (t9 (ht d - 1 - 1) (by omega)) hb.2
      rw [show 16 * d + (ht d - 1 - 1) = 16 * d + ht d - 1 - 1 by omega] at hk
      obtain ⟨a, n, ha1, ha2, ha3, ha4, hn, han⟩ := R.2.2.2.2.2.2.2.2.2.2.2.1.2.2.2.2.2.2.1 (q - 1) (by omega)
      rw [show q - 1 + 1 = q by omega] at ha2 ha4
      rcases pk_ix2 (B 234 (16 * d + ht d - 1)) (n := n) (by omega) with hj | ⟨hj0, hj⟩ | ⟨j, hj, hjv⟩
      · exact st_22r1 P R hs hfn hi his hop hb.1 hk0 hk hq hqr ha3 ha4 hn hj
      · exact st_22r2 P R hs hfn hi his hop hb.1 hk0 hk hq hqr ha3 ha4 hn hj0 hj
      · exact st_22 P R hs hfn hi his hop hb.1 hk0 hk hjv hq hqr ha1 ha2 ha3 ha4 hn han hj
    · exact st_22c P R hs hfn hi his hop (fun z => hb ⟨z.1, z.2.2⟩) ha hb
  · exact st_22b P R hs hfn hi his hop (fun z => ha ⟨by omega, z.2.1⟩) ha
theorem al_23 (P : rl_prog nf pa la sz nh V A w B) (AN : rl_ans na V A w B) (R : rl_run nf la (d + 1) s r u o fn ht V A w B) (hs : s < 1000000000) (hfn : fn d < nf) (hi : B 232 d = nI i) (his : i < sz (fn d)) (hop : B 222 (100 * fn d + i) = 23) : rl_step X nf la s V A w B := by
  have hr5 := R.2.2.2.2.2.2.2.2.2.2.2.1.2.2.1
  have hD := R.2.2.1
  have hp8 := P.2.2.1
  have hF := P.2.2.2 (fn d) hfn
  have hl := hF.2.2.2.2.2.2.1
  have hT := R.2.2.2.2.2.2.2.2.2.2.2.2 d (Nat.lt_succ_self d)
  have h16 := hT.2.2.2.2.2.2.2.1
  have t9 := hT.2.2.2.2.2.2.2.2.1
  by_cases ha : 2 ≤ ht d ∧ A (74 + 7 * d) (ht d - 1) = 0 ∧ A (74 + 7 * d) (ht d - 1 - 1) = 0
  · have h2 := ha.1
    have hk0 := (t9 (ht d - 1) (by omega)).1.symm.trans ha.2.1
    rw [show 16 * d + (ht d - 1) = 16 * d + ht d - 1 by omega] at hk0
    have hk1 := (t9 (ht d - 1 - 1) (by omega)).1.symm.trans ha.2.2
    rw [show 16 * d + (ht d - 1 - 1) = 16 * d + ht d - 1 - 1 by omega] at hk1
    by_cases hb : 3 ≤ ht d ∧ ¬ A (74 + 7 * d) (ht d - 1 - 2) ≤ 0
    · have hc2 := hb.1
      obtain ⟨q, hq, hqr, hk⟩ := rl_isrow (t9 (ht d - 1 - 2) (by omega)) hb.2
      rw [show 16 * d + (ht d - 1 - 2) = 16 * d + ht d - 1 - 2 by omega] at hk
      obtain ⟨a, n, ha1, ha2, ha3, ha4, hn, han⟩ := R.2.2.2.2.2.2.2.2.2.2.2.1.2.2.2.2.2.2.1 (q - 1) (by omega)
      rw [show q - 1 + 1 = q by omega] at ha2 ha4
      rcases pk_ix2 (B 234 (16 * d + ht d - 1 - 1)) (n := n) (by omega) with hj | ⟨hj0, hj⟩ | ⟨j, hj, hjv⟩
      · exact st_23r1 P R hs hfn hi his hop hb.1 hk0 hk1 hk hq hqr ha3 ha4 hn hj
      · exact st_23r2 P R hs hfn hi his hop hb.1 hk0 hk1 hk hq hqr ha3 ha4 hn hj0 hj
      · exact st_23 P R hs hfn hi his hop hb.1 hk0 hk1 hk hjv hq hqr ha1 ha2 ha3 ha4 hn han hj
    · exact st_23c P R hs hfn hi his hop (fun z => hb ⟨z.1, z.2.2.2⟩) ha hb
  · exact st_23b P R hs hfn hi his hop (fun z => ha ⟨by omega, z.2.1, z.2.2.1⟩) ha
theorem al_24 (P : rl_prog nf pa la sz nh V A w B) (AN : rl_ans na V A w B) (R : rl_run nf la (d + 1) s r u o fn ht V A w B) (hs : s < 1000000000) (hfn : fn d < nf) (hi : B 232 d = nI i) (his : i < sz (fn d)) (hop : B 222 (100 * fn d + i) = 24) : rl_step X nf la s V A w B := by
  have hr5 := R.2.2.2.2.2.2.2.2.2.2.2.1.2.2.1
  have hD := R.2.2.1
  have hp8 := P.2.2.1
  have hF := P.2.2.2 (fn d) hfn
  have hl := hF.2.2.2.2.2.2.1
  have hT := R.2.2.2.2.2.2.2.2.2.2.2.2 d (Nat.lt_succ_self d)
  have h16 := hT.2.2.2.2.2.2.2.1
  have t9 := hT.2.2.2.2.2.2.2.2.1
  by_cases hb : 1 ≤ ht d ∧ ¬ A (74 + 7 * d) (ht d - 1) ≤ 0
  · have h1 := hb.1
    obtain ⟨q, hq, hqr, hk⟩ := rl_isrow (t9 (ht d - 1) (by omega)) hb.2
    rw [show 16 * d + (ht d - 1) = 16 * d + ht d - 1 by omega] at hk
    exact st_24 P R hs hfn hi his hop hb.1 hq hqr hk
  · exact st_24b P R hs hfn hi his hop hb
theorem al_25 (P : rl_prog nf pa la sz nh V A w B) (AN : rl_ans na V A w B) (R : rl_run nf la (d + 1) s r u o fn ht V A w B) (hs : s < 1000000000) (hfn : fn d < nf) (hi : B 232 d = nI i) (his : i < sz (fn d)) (hop : B 222 (100 * fn d + i) = 25) : rl_step X nf la s V A w B := by
  have hr5 := R.2.2.2.2.2.2.2.2.2.2.2.1.2.2.1
  have hD := R.2.2.1
  have hp8 := P.2.2.1
  have hF := P.2.2.2 (fn d) hfn
  have hl := hF.2.2.2.2.2.2.1
  have hT := R.2.2.2.2.2.2.2.2.2.2.2.2 d (Nat.lt_succ_self d)
  have h16 := hT.2.2.2.2.2.2.2.1
  have t9 := hT.2.2.2.2.2.2.2.2.1
  rcases pk_ix2 (B 223 (100 * fn d + i)) (n := nf) (by omega) with hv | ⟨hv0, hv⟩ | ⟨j, hj, hv⟩
  · exact st_25n P R hs hfn hi his hop hv
  · exact st_25g P R hs hfn hi his hop hv0 hv
  · by_cases hc : pa j ≤ ht d
    · by_cases hd : d = 19
      · exact st_25r P R hs hfn hi his hop hv hj hc hd
      · exact st_25 P R hs hfn hi his hop hv hj hc (by omega)
    · exact st_25f P R hs hfn hi his hop hv hj (by omega)
theorem al_26 (P : rl_prog nf pa la sz nh V A w B) (AN : rl_ans na V A w B) (R : rl_run nf la (d + 1) s r u o fn ht V A w B) (hs : s < 1000000000) (hfn : fn d < nf) (hi : B 232 d = nI i) (his : i < sz (fn d)) (hop : B 222 (100 * fn d + i) = 26) : rl_step X nf la s V A w B := by
  have hr5 := R.2.2.2.2.2.2.2.2.2.2.2.1.2.2.1
  have hD := R.2.2.1
  have hp8 := P.2.2.1
  have hF := P.2.2.2 (fn d) hfn
  have hl := hF.2.2.2.2.2.2.1
  have hT := R.2.2.2.2.2.2.2.2.2.2.2.2 d (Nat.lt_succ_self d)
  have h16 := hT.2.2.2.2.2.2.2.1
  have t9 := hT.2.2.2.2.2.2.2.2.1
  rcases pk_ix2 (B 223 (100 * fn d + i)) (n := 16) (by omega) with hv | ⟨hv0, hv⟩ | ⟨m, hm, hv⟩
  · exact st_26n P R hs hfn hi his hop hv
  · exact st_26g P R hs hfn hi his hop hv0 (Int32.lt_of_lt_of_le (by decide) hv) (Int32.not_lt.mpr hv)
  · have h4 : m % 4 = 0 ∨ m % 4 = 1 ∨ m % 4 = 2 ∨ m % 4 = 3 := by omega
    have hna := AN.2.2.1
    rcases h4 with h4 | h4 | h4 | h4
    · by_cases hc : ht d < 16
      · by_cases ha : o < na
        · exact st_26_0a P R hs hfn hi his hop AN hv hm h4 hc ha
        · by_cases hb : o < 64
          · exact st_26_0b P R hs hfn hi his hop AN hv hm h4 hc (by omega) hb
          · exact st_26_0c P R hs hfn hi his hop AN hv hm h4 hc (by omega)
      · exact st_26f P R hs hfn hi his hop hv hm h4 (by omega)
    · by_cases hc : 1 ≤ ht d ∧ A (74 + 7 * d) (ht d - 1) = 0
      · by_cases ha : o < na
        · exact st_26_1a P R hs hfn hi his hop AN hv hm h4 hc ha
        · by_cases hb : o < 64
          · exact st_26_1b P R hs hfn hi his hop AN hv hm h4 hc (by omega) hb
          · exact st_26_1c P R hs hfn hi his hop AN hv hm h4 hc (by omega)
      · by_cases h0 : 1 ≤ ht d
        · exact st_26b1p P R hs hfn hi his hop hv hm h4 h0 hc
        · exact st_26b1z P R hs hfn hi his hop hv hm h4 (by omega) hc
    · by_cases hc : 2 ≤ ht d ∧ A (74 + 7 * d) (ht d - 1) = 0 ∧ A (74 + 7 * d) (ht d - 1 - 1) = 0
      · by_cases ha : o < na
        · exact st_26_2a P R hs hfn hi his hop AN hv hm h4 hc ha
        · by_cases hb : o < 64
          · exact st_26_2b P R hs hfn hi his hop AN hv hm h4 hc (by omega) hb
          · exact st_26_2c P R hs hfn hi his hop AN hv hm h4 hc (by omega)
      · exact st_26b2 P R hs hfn hi his hop hv hm h4 hc
    · by_cases hc : 3 ≤ ht d ∧ A (74 + 7 * d) (ht d - 1) = 0 ∧ A (74 + 7 * d) (ht d - 1 - 1) = 0 ∧ A (74 + 7 * d) (ht d - 1 - 2) = 0
      · by_cases ha : o < na
        · exact st_26_3a P R hs hfn hi his hop AN hv hm h4 hc ha
        · by_cases hb : o < 64
          · exact st_26_3b P R hs hfn hi his hop AN hv hm h4 hc (by omega) hb
          · exact st_26_3c P R hs hfn hi his hop AN hv hm h4 hc (by omega)
      · exact st_26b3 P R hs hfn hi his hop hv hm h4 hc
theorem al_27 (P : rl_prog nf pa la sz nh V A w B) (AN : rl_ans na V A w B) (R : rl_run nf la (d + 1) s r u o fn ht V A w B) (hs : s < 1000000000) (hfn : fn d < nf) (hi : B 232 d = nI i) (his : i < sz (fn d)) (hop : B 222 (100 * fn d + i) = 27) : rl_step X nf la s V A w B := by
  have hr5 := R.2.2.2.2.2.2.2.2.2.2.2.1.2.2.1
  have hD := R.2.2.1
  have hp8 := P.2.2.1
  have hF := P.2.2.2 (fn d) hfn
  have hl := hF.2.2.2.2.2.2.1
  have hT := R.2.2.2.2.2.2.2.2.2.2.2.2 d (Nat.lt_succ_self d)
  have h16 := hT.2.2.2.2.2.2.2.1
  have t9 := hT.2.2.2.2.2.2.2.2.1
  have hg := hF.2.2.2.2.2.2.2.2.1
  rcases hg with hg | hg
  · rcases d with _ | e
    · exact st_27a P R hs hfn hi his hop hg rfl
    · exact st_27d P R hs hfn hi his hop hg rfl
  · by_cases hc : 1 ≤ ht d
    · rcases d with _ | e
      · obtain ⟨-, q, hqr, hk, -⟩ := t9 (ht 0 - 1) (by omega)
        rw [show 16 * 0 + (ht 0 - 1) = 16 * 0 + ht 0 - 1 by omega] at hk
        rcases Nat.eq_zero_or_pos q with e | e
        · subst e
          exact st_27b P R hs hfn hi his hop hg rfl hc hk
        · exact st_27c P R hs hfn hi his hop hg rfl hc e hqr hk
      · have h16e := (R.2.2.2.2.2.2.2.2.2.2.2.2 e (by omega)).2.2.2.2.2.2.2.1
        by_cases hc2 : ht e < 16
        · exact st_27e P R hs hfn hi his hop hg rfl hc hc2
        · exact st_27g P R hs hfn hi his hop hg rfl hc (by omega)
    · exact st_27f P R hs hfn hi his hop hg (by omega)
theorem al_28 (P : rl_prog nf pa la sz nh V A w B) (AN : rl_ans na V A w B) (R : rl_run nf la (d + 1) s r u o fn ht V A w B) (hs : s < 1000000000) (hfn : fn d < nf) (hi : B 232 d = nI i) (his : i < sz (fn d)) (hop : B 222 (100 * fn d + i) = 28) : rl_step X nf la s V A w B := by
  have hr5 := R.2.2.2.2.2.2.2.2.2.2.2.1.2.2.1
  have hD := R.2.2.1
  have hp8 := P.2.2.1
  have hF := P.2.2.2 (fn d) hfn
  have hl := hF.2.2.2.2.2.2.1
  have hT := R.2.2.2.2.2.2.2.2.2.2.2.2 d (Nat.lt_succ_self d)
  have h16 := hT.2.2.2.2.2.2.2.1
  have t9 := hT.2.2.2.2.2.2.2.2.1
  by_cases hc : 1 ≤ ht d ∧ A (74 + 7 * d) (ht d - 1) = 0
  · exact st_28 P R hs hfn hi his hop hc
  · exact st_28b P R hs hfn hi his hop hc
theorem st_all (P : rl_prog nf pa la sz nh V A w B) (AN : rl_ans na V A w B) (R : rl_run nf la (d + 1) s r u o fn ht V A w B) (hs : s < 1000000000) : rl_step X nf la s V A w B := by
  by_cases hfn : fn d < nf
  · have hF := P.2.2.2 (fn d) hfn
    have hsz := hF.2.2.2.2.2.2.2.2.2.2.2.1
    rcases pk_ix2 (B 232 d) (n := sz (fn d)) (by omega) with h | ⟨h0, h⟩ | ⟨i, his, hi⟩
    · exact st_noi P R hs hfn h
    · exact st_nog P R hs hfn h0 h
    · obtain ⟨-, -, op, hop28, hop⟩ := hF.2.2.2.2.2.2.2.2.2.2.2.2.1 i his
      have hall : op = 0 ∨ op = 1 ∨ op = 2 ∨ op = 3 ∨ op = 4 ∨ op = 5 ∨ op = 6 ∨ op = 7 ∨ op = 8 ∨ op = 9 ∨ op = 10 ∨ op = 11 ∨ op = 12 ∨ op = 13 ∨ op = 14 ∨ op = 15 ∨ op = 16 ∨ op = 17 ∨ op = 18 ∨ op = 19 ∨ op = 20 ∨ op = 21 ∨ op = 22 ∨ op = 23 ∨ op = 24 ∨ op = 25 ∨ op = 26 ∨ op = 27 ∨ op = 28 := by omega
      rcases hall with rfl | rfl | rfl | rfl | rfl | rfl | rfl | rfl | rfl | rfl | rfl | rfl | rfl | rfl | rfl | rfl | rfl | rfl | rfl | rfl | rfl | rfl | rfl | rfl | rfl | rfl | rfl | rfl | rfl
      · exact al_0 P AN R hs hfn hi his hop
      · exact al_1 P AN R hs hfn hi his hop
      · exact al_2 P AN R hs hfn hi his hop
      · exact al_3 P AN R hs hfn hi his hop
      · exact al_4 P AN R hs hfn hi his hop
      · exact al_5 P AN R hs hfn hi his hop
      · exact al_6 P AN R hs hfn hi his hop
      · exact al_7 P AN R hs hfn hi his hop
      · exact al_8 P AN R hs hfn hi his hop
      · exact al_9 P AN R hs hfn hi his hop
      · exact al_10 P AN R hs hfn hi his hop
      · exact al_11 P AN R hs hfn hi his hop
      · exact al_12 P AN R hs hfn hi his hop
      · exact al_13 P AN R hs hfn hi his hop
      · exact al_14 P AN R hs hfn hi his hop
      · exact al_15 P AN R hs hfn hi his hop
      · exact al_16 P AN R hs hfn hi his hop
      · exact al_17 P AN R hs hfn hi his hop
      · exact al_18 P AN R hs hfn hi his hop
      · exact al_19 P AN R hs hfn hi his hop
      · exact al_20 P AN R hs hfn hi his hop
      · exact al_21 P AN R hs hfn hi his hop
      · exact al_22 P AN R hs hfn hi his hop
      · exact al_23 P AN R hs hfn hi his hop
      · exact al_24 P AN R hs hfn hi his hop
      · exact al_25 P AN R hs hfn hi his hop
      · exact al_26 P AN R hs hfn hi his hop
      · exact al_27 P AN R hs hfn hi his hop
      · exact al_28 P AN R hs hfn hi his hop
  · exact st_nof P R hs (by omega)
end AL
