/-! instructions that change cells -/
theorem jm_fitF {kd : Nat} {v : jm_V} {ty : FieldType} {s0 b : Nat} (h : jm_fit kd v = true) (hk : (kd = 0 ∧ ty = .int) ∨ (kd = 1 ∧ ty = .boolean) ∨ (kd = 2 ∧ ∃ C, ty = .object C) ∨ (kd = 2 ∧ ∃ t, ty = .array t)) : narrow ty (jm_cv s0 b v) = jm_cv s0 b v ∧ fits ty (jm_cv s0 b v) = true := by
  rcases hk with ⟨rfl, rfl⟩ | ⟨rfl, rfl⟩ | ⟨rfl, C, rfl⟩ | ⟨rfl, t, rfl⟩
  · rcases v with x | r
    · exact ⟨rfl, rfl⟩
    · simp [jm_fit] at h
  · rcases v with x | r
    · simp [jm_fit] at h
      rcases h with rfl | rfl
      · exact ⟨by show narrow FieldType.boolean (Value.int 0) = Value.int 0; decide, by show fits FieldType.boolean (Value.int 0) = true; decide⟩
      · exact ⟨by show narrow FieldType.boolean (Value.int 1) = Value.int 1; decide, by show fits FieldType.boolean (Value.int 1) = true; decide⟩
    · simp [jm_fit] at h
  · rcases v with x | (_ | a) | u
    · simp [jm_fit] at h
    · exact ⟨rfl, rfl⟩
    · exact ⟨rfl, rfl⟩
    · exact ⟨rfl, rfl⟩
  · rcases v with x | (_ | a) | u
    · simp [jm_fit] at h
    · exact ⟨rfl, rfl⟩
    · exact ⟨rfl, rfl⟩
    · exact ⟨rfl, rfl⟩
theorem jm_wl_put {D : va_G} {dA : Nat → ClassId} {s0 b i : Nat} {h : jm_H} {H : Heap} {e : va_E} {c : jm_C} (he : jm_cc s0 b dA c = e) (hP : va_P D vwCl ((jm_wl s0 b dA h).set i (s0 + i, e)) H) : va_P D vwCl (jm_wl s0 b dA (h.set i c)) H := by
  rw [← jm_wl_set c he]
  exact hP
theorem jm_put_inv {ci k kd : Nat} {X : jm_X} {pc : Nat} {L : jm_L} {S : List jm_V} {σ : jm_S} {o : jm_O} (h : jk_putf ci k kd X pc L S σ = some o) : ∃ v a S' fs, S = v :: .inr (.inl (some a)) :: S' ∧ σ.1[a]? = some (.inl (ci, fs)) ∧ k < fs.length ∧ jm_fit kd v = true ∧ o = .inl (pc + 3, L, S', (σ.1.set a (.inl (ci, fs.set k v)), σ.2)) := by
  rcases S with _ | ⟨v, _ | ⟨x2 | (_ | a) | u, S0⟩⟩
  all_goals first | (cases h; done) | skip
  simp only [jk_putf] at h
  split at h
  · rename_i cj fs hh
    split at h
    · rename_i hq
      obtain ⟨rfl, h2, h3⟩ := hq
      cases h
      exact ⟨v, a, S0, fs, rfl, hh, h2, h3, rfl⟩
    · cases h
  · cases h
theorem jm_putM (ci k kd : Nat) : jm_OkM (jk_putf ci k kd) := by
  intro X pc L S σ pc' L' S' σ' h
  obtain ⟨v, a, S0, fs, -, -, -, -, ho⟩ := jm_put_inv h
  cases ho
  exact ⟨by simp, Nat.le_refl _⟩
theorem jm_putN {ci k kd pc : Nat} : ∀ X L S σ o, jk_putf ci k kd X pc L S σ ≠ some (.inr o) := by
  intro X L S σ o h
  obtain ⟨v, a, S0, fs, -, -, -, -, ho⟩ := jm_put_inv h
  cases ho
theorem jo_putf {y pc ci k kd idx : Nat} {q : vw_C} {ty : FieldType} (hd : decode (jm_by y) pc = .ok (.putfield idx, 3)) (hc : vwCl[ci]? = some q) (hk : k < q.2.2) (ty0 : Nat → FieldType) (hty : ∀ k, k < q.2.2 → parseFieldDescriptor (q.2.1 k).2.2.1 = some (ty0 k)) (hnm : ∀ a, a < q.2.2 → ∀ b, b < q.2.2 → a ≠ b → (q.2.1 a).2.1 ≠ (q.2.1 b).2.1) (hin : ∀ w ∈ u_ws q.1 q.2.1 q.2.2, w ∈ jm_gw) (hl : Cond.fieldLink (jm_nm y).cls idx (q.2.1 k).1 (q.2.1 k).2.1 (q.2.1 k).2.2.1 ∈ jm_gw) (hfin : (q.2.1 k).2.2.2 = false) (hdty : parseFieldDescriptor (q.2.1 k).2.2.1 = some ty) (hkd : (kd = 0 ∧ ty = .int) ∨ (kd = 1 ∧ ty = .boolean) ∨ (kd = 2 ∧ ∃ C, ty = .object C) ∨ (kd = 2 ∧ ∃ t, ty = .array t)) : jm_Ok y pc (jk_putf ci k kd) := by
  refine jm_Ok.ofS (jm_putM ci k kd) ?_ jm_putN
  intro p l e R s m args below meth c H locs cells slots Q D dA s0 b X L S σ pc' L' S' σ' ls C hf h1 h2 h3 h4 h5 hP hS hL kk
  obtain ⟨hx, hb, hr, hml, hown, hlk, hini, hts, hK, hnw, hao, hX, hbs, hs0⟩ := C
  obtain ⟨v, a, S0, fs, rfl, hh, hkl, hfit, ho⟩ := jm_put_inv hf
  cases ho
  simp only [List.length_set, Nat.sub_self, Nat.add_zero] at kk
  have hv := jm_fitF (s0 := s0) (b := b) hfit hkd
  refine va_put (D := D) (A := fun q => s0 ≤ q) hx hb hts hin ty0 hty hnm hown hK hP (jm_wl_D s0 b dA σ.1) hS a (jm_wl_at hh) hc k hk (hts _ hl) (fun _ h9 => h9) hfin hdty hv.1 hv.2 (by simpa using hkl) hd (fun H1 locs1 hP1 _ hS1 => ?_)
  rw [jm_wl_set (.inl (ci, fs.set k v)) (by simp [jm_cc, List.map_set])] at hP1
  exact kk H1 locs1 ls hP1 hS1 hL
theorem jo_putN {y pc ci k kd idx : Nat} {q : vw_C} {ty : FieldType} {host : String} (hd : decode (jm_by y) pc = .ok (.putfield idx, 3)) (hc : vwCl[ci]? = some q) (hk : k < q.2.2) (ty0 : Nat → FieldType) (hty : ∀ k, k < q.2.2 → parseFieldDescriptor (q.2.1 k).2.2.1 = some (ty0 k)) (hnm : ∀ a, a < q.2.2 → ∀ b, b < q.2.2 → a ≠ b → (q.2.1 a).2.1 ≠ (q.2.1 b).2.1) (hin : ∀ w ∈ u_ws q.1 q.2.1 q.2.2, w ∈ jm_gw) (hl : Cond.fieldLinkNest (jm_nm y).cls idx (q.2.1 k).1 (q.2.1 k).2.1 (q.2.1 k).2.2.1 host ∈ jm_nw) (hfin : (q.2.1 k).2.2.2 = false) (hdty : parseFieldDescriptor (q.2.1 k).2.2.1 = some ty) (hkd : (kd = 0 ∧ ty = .int) ∨ (kd = 1 ∧ ty = .boolean) ∨ (kd = 2 ∧ ∃ C, ty = .object C) ∨ (kd = 2 ∧ ∃ t, ty = .array t)) : jm_Ok y pc (jk_putf ci k kd) := by
  refine jm_Ok.ofS (jm_putM ci k kd) ?_ jm_putN
  intro p l e R s m args below meth c H locs cells slots Q D dA s0 b X L S σ pc' L' S' σ' ls C hf h1 h2 h3 h4 h5 hP hS hL kk
  obtain ⟨hx, hb, hr, hml, hown, hlk, hini, hts, hK, hnw, hao, hX, hbs, hs0⟩ := C
  obtain ⟨v, a, S0, fs, rfl, hh, hkl, hfit, ho⟩ := jm_put_inv hf
  cases ho
  simp only [List.length_set, Nat.sub_self, Nat.add_zero] at kk
  have hv := jm_fitF (s0 := s0) (b := b) hfit hkd
  refine va_putN (D := D) (A := fun q => s0 ≤ q) hx hb hts hin ty0 hty hnm hown hK hP (jm_wl_D s0 b dA σ.1) hS a (jm_wl_at hh) hc k hk (va_Nw.use rfl (hnw _ hl)) (fun _ h9 => h9) hfin hdty hv.1 hv.2 (by simpa using hkl) hd (fun H1 locs1 hP1 _ hS1 => ?_)
  rw [jm_wl_set (.inl (ci, fs.set k v)) (by simp [jm_cc, List.map_set])] at hP1
  exact kk H1 locs1 ls hP1 hS1 hL
theorem jo_putF {y pc ci k kd idx : Nat} {q : vw_C} {ty : FieldType} (hd : decode (jm_by y) pc = .ok (.putfield idx, 3)) (hc : vwCl[ci]? = some q) (hk : k < q.2.2) (ty0 : Nat → FieldType) (hty : ∀ k, k < q.2.2 → parseFieldDescriptor (q.2.1 k).2.2.1 = some (ty0 k)) (hnm : ∀ a, a < q.2.2 → ∀ b, b < q.2.2 → a ≠ b → (q.2.1 a).2.1 ≠ (q.2.1 b).2.1) (hin : ∀ w ∈ u_ws q.1 q.2.1 q.2.2, w ∈ jm_gw) (hl : Cond.fieldLink (jm_nm y).cls idx (q.2.1 k).1 (q.2.1 k).2.1 (q.2.1 k).2.2.1 ∈ jm_gw) (hfin : (q.2.1 k).2.2.2 = true) (hiny : (jm_nm y).name = "<init>") (hdecl : (q.2.1 k).1 = (jm_nm y).cls) (hdty : parseFieldDescriptor (q.2.1 k).2.2.1 = some ty) (hkd : (kd = 0 ∧ ty = .int) ∨ (kd = 1 ∧ ty = .boolean) ∨ (kd = 2 ∧ ∃ C, ty = .object C) ∨ (kd = 2 ∧ ∃ t, ty = .array t)) : jm_Ok y pc (jk_putf ci k kd) := by
  refine jm_Ok.ofS (jm_putM ci k kd) ?_ jm_putN
  intro p l e R s m args below meth c H locs cells slots Q D dA s0 b X L S σ pc' L' S' σ' ls C hf h1 h2 h3 h4 h5 hP hS hL kk
  obtain ⟨hx, hb, hr, hml, hown, hlk, hini, hts, hK, hnw, hao, hX, hbs, hs0⟩ := C
  obtain ⟨v, a, S0, fs, rfl, hh, hkl, hfit, ho⟩ := jm_put_inv hf
  cases ho
  simp only [List.length_set, Nat.sub_self, Nat.add_zero] at kk
  have hv := jm_fitF (s0 := s0) (b := b) hfit hkd
  refine va_putF (D := D) (A := fun q => s0 ≤ q) hx hb hts hin ty0 hty hnm hown hK hP (jm_wl_D s0 b dA σ.1) hS a (jm_wl_at hh) hc k hk (hts _ hl) (fun _ h9 => h9) hfin (hini hiny) hdecl hdty hv.1 hv.2 (by simpa using hkl) hd (fun H1 locs1 hP1 _ hS1 => ?_)
  rw [jm_wl_set (.inl (ci, fs.set k v)) (by simp [jm_cc, List.map_set])] at hP1
  exact kk H1 locs1 ls hP1 hS1 hL
theorem jm_iast_inv {X : jm_X} {pc : Nat} {L : jm_L} {S : List jm_V} {σ : jm_S} {o : jm_O} (h : jk_iast X pc L S σ = some o) : ∃ x i a S' n f, S = .inl x :: .inl i :: .inr (.inl (some a)) :: S' ∧ σ.1[a]? = some (.inr (.inl (0, n, f))) ∧ jm_in i n = true ∧ o = .inl (pc + 1, L, S', (σ.1.set a (.inr (.inl (0, n, upd f i.toNatClampNeg x))), σ.2)) := by
  rcases S with _ | ⟨x1 | r1, _ | ⟨i | r2, _ | ⟨x2 | (_ | a) | u, S0⟩⟩⟩
  all_goals first | (cases h; done) | skip
  simp only [jk_iast] at h
  split at h
  · rename_i t' n f hh
    split at h
    · rename_i hq
      obtain ⟨rfl, h2⟩ := hq
      cases h
      exact ⟨x1, i, a, S0, n, f, rfl, hh, h2, rfl⟩
    · cases h
  · cases h
theorem jo_iast {y pc : Nat} (hd : decode (jm_by y) pc = .ok (.iastore, 1)) (ht : jm_at[0]? = some .int) : jm_Ok y pc jk_iast := by
  refine jm_Ok.ofS ?_ ?_ ?_
  · intro X pc L S σ pc' L' S' σ' h
    obtain ⟨x, i, a, S0, n, f, -, -, -, ho⟩ := jm_iast_inv h
    cases ho
    exact ⟨by simp, Nat.le_refl _⟩
  · intro p l e R s m args below meth c H locs cells slots Q D dA s0 b X L S σ pc' L' S' σ' ls C hf h1 h2 h3 h4 h5 hP hS hL kk
    obtain ⟨hx, hb, hr, hml, hown, hlk, hini, hts, hK, hnw, hao, hX, hbs, hs0⟩ := C
    obtain ⟨x, i, a, S0, n, f, rfl, hh, hq, ho⟩ := jm_iast_inv hf
    cases ho
    simp only [List.length_set, Nat.sub_self, Nat.add_zero] at kk
    refine va_iast hx hb hK hP (jm_wl_D s0 b dA σ.1) hS a 0 (jm_wl_at hh) (jm_tys_at ht) (jm_in_of hq) hd (fun H1 locs1 hP1 _ hS1 => ?_)
    exact kk H1 locs1 ls (jm_wl_put (c := .inr (.inl (0, n, upd f i.toNatClampNeg x))) rfl hP1) hS1 hL
  · intro X L S σ o h
    obtain ⟨x, i, a, S0, n, f, -, -, -, ho⟩ := jm_iast_inv h
    cases ho
theorem jm_zast_inv {X : jm_X} {pc : Nat} {L : jm_L} {S : List jm_V} {σ : jm_S} {o : jm_O} (h : jk_zast X pc L S σ = some o) : ∃ x i a S' n f, S = .inl x :: .inl i :: .inr (.inl (some a)) :: S' ∧ σ.1[a]? = some (.inr (.inl (1, n, f))) ∧ jm_in i n = true ∧ o = .inl (pc + 1, L, S', (σ.1.set a (.inr (.inl (1, n, upd f i.toNatClampNeg (vp_nar .boolean x)))), σ.2)) := by
  rcases S with _ | ⟨x1 | r1, _ | ⟨i | r2, _ | ⟨x2 | (_ | a) | u, S0⟩⟩⟩
  all_goals first | (cases h; done) | skip
  simp only [jk_zast] at h
  split at h
  · rename_i t' n f hh
    split at h
    · rename_i hq
      obtain ⟨rfl, h2⟩ := hq
      cases h
      exact ⟨x1, i, a, S0, n, f, rfl, hh, h2, rfl⟩
    · cases h
  · cases h
theorem jo_zast {y pc : Nat} (hd : decode (jm_by y) pc = .ok (.bastore, 1)) (ht : jm_at[1]? = some .boolean) : jm_Ok y pc jk_zast := by
  refine jm_Ok.ofS ?_ ?_ ?_
  · intro X pc L S σ pc' L' S' σ' h
    obtain ⟨x, i, a, S0, n, f, -, -, -, ho⟩ := jm_zast_inv h
    cases ho
    exact ⟨by simp, Nat.le_refl _⟩
  · intro p l e R s m args below meth c H locs cells slots Q D dA s0 b X L S σ pc' L' S' σ' ls C hf h1 h2 h3 h4 h5 hP hS hL kk
    obtain ⟨hx, hb, hr, hml, hown, hlk, hini, hts, hK, hnw, hao, hX, hbs, hs0⟩ := C
    obtain ⟨x, i, a, S0, n, f, rfl, hh, hq, ho⟩ := jm_zast_inv hf
    cases ho
    simp only [List.length_set, Nat.sub_self, Nat.add_zero] at kk
    refine va_zast hx hb hK hP (jm_wl_D s0 b dA σ.1) hS a 1 (jm_wl_at hh) (jm_tys_at ht) (jm_in_of hq) hd (fun H1 locs1 hP1 _ hS1 => ?_)
    exact kk H1 locs1 ls (jm_wl_put (c := .inr (.inl (1, n, upd f i.toNatClampNeg (vp_nar .boolean x)))) rfl hP1) hS1 hL
  · intro X L S σ o h
    obtain ⟨x, i, a, S0, n, f, -, -, -, ho⟩ := jm_zast_inv h
    cases ho
theorem jm_aast_inv {t ci : Nat} {X : jm_X} {pc : Nat} {L : jm_L} {S : List jm_V} {σ : jm_S} {o : jm_O} (h : jk_aast t ci X pc L S σ = some o) : ∃ v i a S' rs fs, S = .inr (.inl (some v)) :: .inl i :: .inr (.inl (some a)) :: S' ∧ σ.1[a]? = some (.inr (.inr (t, rs))) ∧ σ.1[v]? = some (.inl (ci, fs)) ∧ jm_in i rs.length = true ∧ o = .inl (pc + 1, L, S', (σ.1.set a (.inr (.inr (t, rs.set i.toNatClampNeg (some v)))), σ.2)) := by
  rcases S with _ | ⟨x1 | (_ | v) | u1, _ | ⟨i | r2, _ | ⟨x2 | (_ | a) | u, S0⟩⟩⟩
  all_goals first | (cases h; done) | skip
  simp only [jk_aast] at h
  split at h
  · rename_i t' rs cj fs hh hh2
    split at h
    · rename_i hq
      obtain ⟨rfl, rfl, h2⟩ := hq
      cases h
      exact ⟨v, i, a, S0, rs, fs, rfl, hh, hh2, h2, rfl⟩
    · cases h
  · cases h
theorem jo_aast {y pc t ci : Nat} {q : vw_C} (hd : decode (jm_by y) pc = .ok (.aastore, 1)) (ht : jm_at[t]? = some (.object q.1)) (hc : vwCl[ci]? = some q) : jm_Ok y pc (jk_aast t ci) := by
  refine jm_Ok.ofS ?_ ?_ ?_
  · intro X pc L S σ pc' L' S' σ' h
    obtain ⟨v, i, a, S0, rs, fs, -, -, -, -, ho⟩ := jm_aast_inv h
    cases ho
    exact ⟨by simp, Nat.le_refl _⟩
  · intro p l e R s m args below meth c H locs cells slots Q D dA s0 b X L S σ pc' L' S' σ' ls C hf h1 h2 h3 h4 h5 hP hS hL kk
    obtain ⟨hx, hb, hr, hml, hown, hlk, hini, hts, hK, hnw, hao, hX, hbs, hs0⟩ := C
    obtain ⟨v, i, a, S0, rs, fs, rfl, hh, hh2, hq, ho⟩ := jm_aast_inv hf
    cases ho
    simp only [List.length_set, Nat.sub_self, Nat.add_zero] at kk
    have hin : vp_in i rs.length := jm_in_of hq
    have hlt : i.toNatClampNeg < rs.length := Nat.not_le.mp fun z => hin (Or.inr z)
    refine va_astq hx hb hK hP (jm_wl_D s0 b dA σ.1) hS a t v ci (jm_wl_at hh) (jm_tys_at ht) (jm_wl_at hh2) hc hin hd (fun H1 locs1 hP1 _ hS1 => ?_)
    have e9 : (fun j => (((rs.set i.toNatClampNeg (some v))[j]?).join).map (fun q => s0 + q)) = va_up (fun j => ((rs[j]?).join).map (fun q => s0 + q)) i.toNatClampNeg (some (s0 + v)) := by
      funext j
      by_cases hj : j = i.toNatClampNeg
      · subst hj
        simp [va_up, hlt]
      · simp [va_up, hj, List.getElem?_set_ne (Ne.symm hj)]
    exact kk H1 locs1 ls (jm_wl_put (c := .inr (.inr (t, rs.set i.toNatClampNeg (some v)))) (by simp only [jm_cc, List.length_set, e9]) hP1) hS1 hL
  · intro X L S σ o h
    obtain ⟨v, i, a, S0, rs, fs, -, -, -, -, ho⟩ := jm_aast_inv h
    cases ho
