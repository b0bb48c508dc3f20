theorem jo_iconst {y pc : Nat} {n : Int} {x : Int32} (hd : decode (jm_by y) pc = .ok (.iconst n, 1)) (hv : Int32.ofInt n = x) : jm_Ok y pc (jk_const x 1) := by
  refine jm_pure (by intro X L S σ o h; simp only [jk_const] at h; (repeat' (split at h)) <;> simp at h) (by intro X pc L S σ pc' L' S' σ' h; simp only [jk_const] at h; (repeat' (split at h)) <;> first | (simp at h; done) | (simp at h; exact h.2.2.2.symm)) ?_
  intro p l e R s m args below meth c H locs cells slots Q D dA s0 b X L S σ pc' L' S' ls C hf h1 h2 h3 h4 hP hS hL kk
  obtain ⟨hx, hb, hr, hml, hown, hlk, hini, hts, hK, hnw, hao, hX, hbs, hs0⟩ := C
  cases hf
  exact lv_iconst hx hb hd hv (kk ls hL)
theorem jo_bipush {y pc : Nat} {n : Int} {x : Int32} (hd : decode (jm_by y) pc = .ok (.bipush n, 2)) (hv : (Int8.ofInt n).toInt32 = x) : jm_Ok y pc (jk_const x 2) := by
  refine jm_pure (by intro X L S σ o h; simp only [jk_const] at h; (repeat' (split at h)) <;> simp at h) (by intro X pc L S σ pc' L' S' σ' h; simp only [jk_const] at h; (repeat' (split at h)) <;> first | (simp at h; done) | (simp at h; exact h.2.2.2.symm)) ?_
  intro p l e R s m args below meth c H locs cells slots Q D dA s0 b X L S σ pc' L' S' ls C hf h1 h2 h3 h4 hP hS hL kk
  obtain ⟨hx, hb, hr, hml, hown, hlk, hini, hts, hK, hnw, hao, hX, hbs, hs0⟩ := C
  cases hf
  exact lv_bipush hx hb hd hv (kk ls hL)
theorem jo_sipush {y pc : Nat} {n : Int} {x : Int32} (hd : decode (jm_by y) pc = .ok (.sipush n, 3)) (hv : (Int16.ofInt n).toInt32 = x) : jm_Ok y pc (jk_const x 3) := by
  refine jm_pure (by intro X L S σ o h; simp only [jk_const] at h; (repeat' (split at h)) <;> simp at h) (by intro X pc L S σ pc' L' S' σ' h; simp only [jk_const] at h; (repeat' (split at h)) <;> first | (simp at h; done) | (simp at h; exact h.2.2.2.symm)) ?_
  intro p l e R s m args below meth c H locs cells slots Q D dA s0 b X L S σ pc' L' S' ls C hf h1 h2 h3 h4 hP hS hL kk
  obtain ⟨hx, hb, hr, hml, hown, hlk, hini, hts, hK, hnw, hao, hX, hbs, hs0⟩ := C
  cases hf
  exact lv_sipush hx hb hd hv (kk ls hL)
theorem jo_ldc {y pc : Nat} {n : Nat} {x : Int32} (hd : decode (jm_by y) pc = .ok (.ldc n, 2)) (hw : Cond.constant (jm_nm y).cls n x ∈ jm_gw) : jm_Ok y pc (jk_const x 2) := by
  refine jm_pure (by intro X L S σ o h; simp only [jk_const] at h; (repeat' (split at h)) <;> simp at h) (by intro X pc L S σ pc' L' S' σ' h; simp only [jk_const] at h; (repeat' (split at h)) <;> first | (simp at h; done) | (simp at h; exact h.2.2.2.symm)) ?_
  intro p l e R s m args below meth c H locs cells slots Q D dA s0 b X L S σ pc' L' S' ls C hf h1 h2 h3 h4 hP hS hL kk
  obtain ⟨hx, hb, hr, hml, hown, hlk, hini, hts, hK, hnw, hao, hX, hbs, hs0⟩ := C
  cases hf
  exact lv_ldc hx hb hown (hts _ hw) hd (kk ls hL)
theorem jo_null {y pc : Nat} (hd : decode (jm_by y) pc = .ok (.aconst_null, 1)) : jm_Ok y pc (jk_null) := by
  refine jm_pure (by intro X L S σ o h; simp only [jk_null] at h; (repeat' (split at h)) <;> simp at h) (by intro X pc L S σ pc' L' S' σ' h; simp only [jk_null] at h; (repeat' (split at h)) <;> first | (simp at h; done) | (simp at h; exact h.2.2.2.symm)) ?_
  intro p l e R s m args below meth c H locs cells slots Q D dA s0 b X L S σ pc' L' S' ls C hf h1 h2 h3 h4 hP hS hL kk
  obtain ⟨hx, hb, hr, hml, hown, hlk, hini, hts, hK, hnw, hao, hX, hbs, hs0⟩ := C
  cases hf
  exact lv_null hx hb hd (kk ls hL)
theorem jo_iload_n {y pc : Nat} {k : Fin 4} (hd : decode (jm_by y) pc = .ok (.iload_n k, 1)) : jm_Ok y pc (jk_iload k.val 1) := by
  refine jm_pure (by intro X L S σ o h; simp only [jk_iload] at h; (repeat' (split at h)) <;> simp at h) (by intro X pc L S σ pc' L' S' σ' h; simp only [jk_iload] at h; (repeat' (split at h)) <;> first | (simp at h; done) | (simp at h; exact h.2.2.2.symm)) ?_
  intro p l e R s m args below meth c H locs cells slots Q D dA s0 b X L S σ pc' L' S' ls C hf h1 h2 h3 h4 hP hS hL kk
  obtain ⟨hx, hb, hr, hml, hown, hlk, hini, hts, hK, hnw, hao, hX, hbs, hs0⟩ := C
  simp only [jk_iload] at hf
  split at hf
  · rename_i x hi
    cases hf
    exact lv_iload_n hx hb hd rfl (hL.at hi) (kk ls hL)
  · cases hf
theorem jo_iload {y pc i : Nat} (hd : decode (jm_by y) pc = .ok (.iload i, 2)) : jm_Ok y pc (jk_iload i 2) := by
  refine jm_pure (by intro X L S σ o h; simp only [jk_iload] at h; (repeat' (split at h)) <;> simp at h) (by intro X pc L S σ pc' L' S' σ' h; simp only [jk_iload] at h; (repeat' (split at h)) <;> first | (simp at h; done) | (simp at h; exact h.2.2.2.symm)) ?_
  intro p l e R s m args below meth c H locs cells slots Q D dA s0 b X L S σ pc' L' S' ls C hf h1 h2 h3 h4 hP hS hL kk
  obtain ⟨hx, hb, hr, hml, hown, hlk, hini, hts, hK, hnw, hao, hX, hbs, hs0⟩ := C
  simp only [jk_iload] at hf
  split at hf
  · rename_i x hi
    cases hf
    exact lv_iload hx hb hd (hL.at hi) (kk ls hL)
  · cases hf
theorem jo_aload_n {y pc : Nat} {k : Fin 4} (hd : decode (jm_by y) pc = .ok (.aload_n k, 1)) : jm_Ok y pc (jk_aload k.val 1) := by
  refine jm_pure (by intro X L S σ o h; simp only [jk_aload] at h; (repeat' (split at h)) <;> simp at h) (by intro X pc L S σ pc' L' S' σ' h; simp only [jk_aload] at h; (repeat' (split at h)) <;> first | (simp at h; done) | (simp at h; exact h.2.2.2.symm)) ?_
  intro p l e R s m args below meth c H locs cells slots Q D dA s0 b X L S σ pc' L' S' ls C hf h1 h2 h3 h4 hP hS hL kk
  obtain ⟨hx, hb, hr, hml, hown, hlk, hini, hts, hK, hnw, hao, hX, hbs, hs0⟩ := C
  simp only [jk_aload] at hf
  split at hf
  · rename_i r hi
    cases hf
    rcases r with (_ | a) | u
    · exact lv_aload_nN hx hb hd rfl (hL.at hi) (kk ls hL)
    · exact lv_aload_n hx hb hd rfl (hL.at hi) (kk ls hL)
    · exact lv_aload_n hx hb hd rfl (hL.at hi) (kk ls hL)
  · cases hf
theorem jo_aload {y pc i : Nat} (hd : decode (jm_by y) pc = .ok (.aload i, 2)) : jm_Ok y pc (jk_aload i 2) := by
  refine jm_pure (by intro X L S σ o h; simp only [jk_aload] at h; (repeat' (split at h)) <;> simp at h) (by intro X pc L S σ pc' L' S' σ' h; simp only [jk_aload] at h; (repeat' (split at h)) <;> first | (simp at h; done) | (simp at h; exact h.2.2.2.symm)) ?_
  intro p l e R s m args below meth c H locs cells slots Q D dA s0 b X L S σ pc' L' S' ls C hf h1 h2 h3 h4 hP hS hL kk
  obtain ⟨hx, hb, hr, hml, hown, hlk, hini, hts, hK, hnw, hao, hX, hbs, hs0⟩ := C
  simp only [jk_aload] at hf
  split at hf
  · rename_i r hi
    cases hf
    rcases r with (_ | a) | u
    · exact lv_aloadN hx hb hd (hL.at hi) (kk ls hL)
    · exact lv_aload hx hb hd (hL.at hi) (kk ls hL)
    · exact lv_aload hx hb hd (hL.at hi) (kk ls hL)
  · cases hf
theorem jo_istore_n {y pc : Nat} {k : Fin 4} (hd : decode (jm_by y) pc = .ok (.istore_n k, 1)) : jm_Ok y pc (jk_istore k.val 1) := by
  refine jm_pure (by intro X L S σ o h; simp only [jk_istore] at h; (repeat' (split at h)) <;> simp at h) (by intro X pc L S σ pc' L' S' σ' h; simp only [jk_istore] at h; (repeat' (split at h)) <;> first | (simp at h; done) | (simp at h; exact h.2.2.2.symm)) ?_
  intro p l e R s m args below meth c H locs cells slots Q D dA s0 b X L S σ pc' L' S' ls C hf h1 h2 h3 h4 hP hS hL kk
  obtain ⟨hx, hb, hr, hml, hown, hlk, hini, hts, hK, hnw, hao, hX, hbs, hs0⟩ := C
  rcases S with _ | ⟨x | r, S0⟩
  · cases hf
  · simp only [jk_istore] at hf
    split at hf
    · rename_i hi
      cases hf
      exact lv_istore_n hx hb hd rfl hL.2 (hL.1 ▸ hi) rfl (fun ls' h' => kk ls' (hL.set rfl h'))
    · cases hf
  · cases hf
theorem jo_istore {y pc i : Nat} (hd : decode (jm_by y) pc = .ok (.istore i, 2)) : jm_Ok y pc (jk_istore i 2) := by
  refine jm_pure (by intro X L S σ o h; simp only [jk_istore] at h; (repeat' (split at h)) <;> simp at h) (by intro X pc L S σ pc' L' S' σ' h; simp only [jk_istore] at h; (repeat' (split at h)) <;> first | (simp at h; done) | (simp at h; exact h.2.2.2.symm)) ?_
  intro p l e R s m args below meth c H locs cells slots Q D dA s0 b X L S σ pc' L' S' ls C hf h1 h2 h3 h4 hP hS hL kk
  obtain ⟨hx, hb, hr, hml, hown, hlk, hini, hts, hK, hnw, hao, hX, hbs, hs0⟩ := C
  rcases S with _ | ⟨x | r, S0⟩
  · cases hf
  · simp only [jk_istore] at hf
    split at hf
    · rename_i hi
      cases hf
      exact lv_istore hx hb hd hL.2 (hL.1 ▸ hi) rfl (fun ls' h' => kk ls' (hL.set rfl h'))
    · cases hf
  · cases hf
theorem jo_astore_n {y pc : Nat} {k : Fin 4} (hd : decode (jm_by y) pc = .ok (.astore_n k, 1)) : jm_Ok y pc (jk_astore k.val 1) := by
  refine jm_pure (by intro X L S σ o h; simp only [jk_astore] at h; (repeat' (split at h)) <;> simp at h) (by intro X pc L S σ pc' L' S' σ' h; simp only [jk_astore] at h; (repeat' (split at h)) <;> first | (simp at h; done) | (simp at h; exact h.2.2.2.symm)) ?_
  intro p l e R s m args below meth c H locs cells slots Q D dA s0 b X L S σ pc' L' S' ls C hf h1 h2 h3 h4 hP hS hL kk
  obtain ⟨hx, hb, hr, hml, hown, hlk, hini, hts, hK, hnw, hao, hX, hbs, hs0⟩ := C
  rcases S with _ | ⟨x | r, S0⟩
  · cases hf
  · cases hf
  · simp only [jk_astore] at hf
    split at hf
    · rename_i hi
      cases hf
      rcases r with (_ | a) | u
      · exact lv_astore_nN hx hb hd rfl hL.2 (hL.1 ▸ hi) rfl (fun ls' h' => kk ls' (hL.set rfl h'))
      · exact lv_astore_n hx hb hd rfl hL.2 (hL.1 ▸ hi) rfl (fun ls' h' => kk ls' (hL.set rfl h'))
      · exact lv_astore_n hx hb hd rfl hL.2 (hL.1 ▸ hi) rfl (fun ls' h' => kk ls' (hL.set rfl h'))
    · cases hf
theorem jo_astore {y pc i : Nat} (hd : decode (jm_by y) pc = .ok (.astore i, 2)) : jm_Ok y pc (jk_astore i 2) := by
  refine jm_pure (by intro X L S σ o h; simp only [jk_astore] at h; (repeat' (split at h)) <;> simp at h) (by intro X pc L S σ pc' L' S' σ' h; simp only [jk_astore] at h; (repeat' (split at h)) <;> first | (simp at h; done) | (simp at h; exact h.2.2.2.symm)) ?_
  intro p l e R s m args below meth c H locs cells slots Q D dA s0 b X L S σ pc' L' S' ls C hf h1 h2 h3 h4 hP hS hL kk
  obtain ⟨hx, hb, hr, hml, hown, hlk, hini, hts, hK, hnw, hao, hX, hbs, hs0⟩ := C
  rcases S with _ | ⟨x | r, S0⟩
  · cases hf
  · cases hf
  · simp only [jk_astore] at hf
    split at hf
    · rename_i hi
      cases hf
      rcases r with (_ | a) | u
      · exact lv_astoreN hx hb hd hL.2 (hL.1 ▸ hi) rfl (fun ls' h' => kk ls' (hL.set rfl h'))
      · exact lv_astore hx hb hd hL.2 (hL.1 ▸ hi) rfl (fun ls' h' => kk ls' (hL.set rfl h'))
      · exact lv_astore hx hb hd hL.2 (hL.1 ▸ hi) rfl (fun ls' h' => kk ls' (hL.set rfl h'))
    · cases hf
theorem jo_iinc {y pc i : Nat} {n : Int} {k : Int32} (hd : decode (jm_by y) pc = .ok (.iinc i n, 3)) (hk : Int32.ofInt n = k) : jm_Ok y pc (jk_iinc i k) := by
  refine jm_pure (by intro X L S σ o h; simp only [jk_iinc] at h; (repeat' (split at h)) <;> simp at h) (by intro X pc L S σ pc' L' S' σ' h; simp only [jk_iinc] at h; (repeat' (split at h)) <;> first | (simp at h; done) | (simp at h; exact h.2.2.2.symm)) ?_
  intro p l e R s m args below meth c H locs cells slots Q D dA s0 b X L S σ pc' L' S' ls C hf h1 h2 h3 h4 hP hS hL kk
  obtain ⟨hx, hb, hr, hml, hown, hlk, hini, hts, hK, hnw, hao, hX, hbs, hs0⟩ := C
  simp only [jk_iinc] at hf
  split at hf
  · rename_i x hi
    cases hf
    obtain ⟨j, hj⟩ := hL.get hi
    have hlt : i < jm_mx y := by rw [← hL.1]; exact (List.getElem?_eq_some_iff.mp hi).1
    exact lv_iinc (k := j) (x := x) (v := x + k) hx hb hd hL.2 hj (by rw [hk]) hlt rfl (fun ls' h' => kk ls' (hL.set rfl h'))
  · cases hf
theorem jo_dup {y pc : Nat} (hd : decode (jm_by y) pc = .ok (.dup, 1)) : jm_Ok y pc (jk_dup) := by
  refine jm_pure (by intro X L S σ o h; simp only [jk_dup] at h; (repeat' (split at h)) <;> simp at h) (by intro X pc L S σ pc' L' S' σ' h; simp only [jk_dup] at h; (repeat' (split at h)) <;> first | (simp at h; done) | (simp at h; exact h.2.2.2.symm)) ?_
  intro p l e R s m args below meth c H locs cells slots Q D dA s0 b X L S σ pc' L' S' ls C hf h1 h2 h3 h4 hP hS hL kk
  obtain ⟨hx, hb, hr, hml, hown, hlk, hini, hts, hK, hnw, hao, hX, hbs, hs0⟩ := C
  rcases S with _ | ⟨v, S0⟩
  · cases hf
  · cases hf
    exact lv_dup hx hb hd (jm_cat s0 b v) (kk ls hL)
theorem jo_pop {y pc : Nat} (hd : decode (jm_by y) pc = .ok (.pop, 1)) : jm_Ok y pc (jk_pop) := by
  refine jm_pure (by intro X L S σ o h; simp only [jk_pop] at h; (repeat' (split at h)) <;> simp at h) (by intro X pc L S σ pc' L' S' σ' h; simp only [jk_pop] at h; (repeat' (split at h)) <;> first | (simp at h; done) | (simp at h; exact h.2.2.2.symm)) ?_
  intro p l e R s m args below meth c H locs cells slots Q D dA s0 b X L S σ pc' L' S' ls C hf h1 h2 h3 h4 hP hS hL kk
  obtain ⟨hx, hb, hr, hml, hown, hlk, hini, hts, hK, hnw, hao, hX, hbs, hs0⟩ := C
  rcases S with _ | ⟨v, S0⟩
  · cases hf
  · cases hf
    exact lv_pop hx hb hd (jm_cat s0 b v) (kk ls hL)
theorem jo_dup_x1 {y pc : Nat} (hd : decode (jm_by y) pc = .ok (.dup_x1, 1)) : jm_Ok y pc (jk_dup_x1) := by
  refine jm_pure (by intro X L S σ o h; simp only [jk_dup_x1] at h; (repeat' (split at h)) <;> simp at h) (by intro X pc L S σ pc' L' S' σ' h; simp only [jk_dup_x1] at h; (repeat' (split at h)) <;> first | (simp at h; done) | (simp at h; exact h.2.2.2.symm)) ?_
  intro p l e R s m args below meth c H locs cells slots Q D dA s0 b X L S σ pc' L' S' ls C hf h1 h2 h3 h4 hP hS hL kk
  obtain ⟨hx, hb, hr, hml, hown, hlk, hini, hts, hK, hnw, hao, hX, hbs, hs0⟩ := C
  rcases S with _ | ⟨v, _ | ⟨w, S0⟩⟩
  · cases hf
  · cases hf
  · cases hf
    exact lv_dup_x1 hx hb hd (jm_cat s0 b v) (jm_cat s0 b w) (kk ls hL)
theorem jo_dup2 {y pc : Nat} (hd : decode (jm_by y) pc = .ok (.dup2, 1)) : jm_Ok y pc (jk_dup2) := by
  refine jm_pure (by intro X L S σ o h; simp only [jk_dup2] at h; (repeat' (split at h)) <;> simp at h) (by intro X pc L S σ pc' L' S' σ' h; simp only [jk_dup2] at h; (repeat' (split at h)) <;> first | (simp at h; done) | (simp at h; exact h.2.2.2.symm)) ?_
  intro p l e R s m args below meth c H locs cells slots Q D dA s0 b X L S σ pc' L' S' ls C hf h1 h2 h3 h4 hP hS hL kk
  obtain ⟨hx, hb, hr, hml, hown, hlk, hini, hts, hK, hnw, hao, hX, hbs, hs0⟩ := C
  rcases S with _ | ⟨v, _ | ⟨w, S0⟩⟩
  · cases hf
  · cases hf
  · cases hf
    exact lv_dup2_11 hx hb hd (jm_cat s0 b v) (jm_cat s0 b w) (kk ls hL)
theorem jo_iadd {y pc : Nat} (hd : decode (jm_by y) pc = .ok (.iadd, 1)) : jm_Ok y pc (jb_iadd) := by
  refine jm_pure (by intro X L S σ o h; simp only [jb_iadd, jk_bin] at h; (repeat' (split at h)) <;> simp at h) (by intro X pc L S σ pc' L' S' σ' h; simp only [jb_iadd, jk_bin] at h; (repeat' (split at h)) <;> first | (simp at h; done) | (simp at h; exact h.2.2.2.symm)) ?_
  intro p l e R s m args below meth c H locs cells slots Q D dA s0 b X L S σ pc' L' S' ls C hf h1 h2 h3 h4 hP hS hL kk
  obtain ⟨hx, hb, hr, hml, hown, hlk, hini, hts, hK, hnw, hao, hX, hbs, hs0⟩ := C
  rcases S with _ | ⟨y1 | r1, _ | ⟨x1 | r2, S0⟩⟩
  all_goals first | (cases hf; done) | skip
  cases hf
  exact lv_iadd hx hb hd (kk ls hL)
theorem jo_isub {y pc : Nat} (hd : decode (jm_by y) pc = .ok (.isub, 1)) : jm_Ok y pc (jb_isub) := by
  refine jm_pure (by intro X L S σ o h; simp only [jb_isub, jk_bin] at h; (repeat' (split at h)) <;> simp at h) (by intro X pc L S σ pc' L' S' σ' h; simp only [jb_isub, jk_bin] at h; (repeat' (split at h)) <;> first | (simp at h; done) | (simp at h; exact h.2.2.2.symm)) ?_
  intro p l e R s m args below meth c H locs cells slots Q D dA s0 b X L S σ pc' L' S' ls C hf h1 h2 h3 h4 hP hS hL kk
  obtain ⟨hx, hb, hr, hml, hown, hlk, hini, hts, hK, hnw, hao, hX, hbs, hs0⟩ := C
  rcases S with _ | ⟨y1 | r1, _ | ⟨x1 | r2, S0⟩⟩
  all_goals first | (cases hf; done) | skip
  cases hf
  exact lv_isub hx hb hd (kk ls hL)
theorem jo_imul {y pc : Nat} (hd : decode (jm_by y) pc = .ok (.imul, 1)) : jm_Ok y pc (jb_imul) := by
  refine jm_pure (by intro X L S σ o h; simp only [jb_imul, jk_bin] at h; (repeat' (split at h)) <;> simp at h) (by intro X pc L S σ pc' L' S' σ' h; simp only [jb_imul, jk_bin] at h; (repeat' (split at h)) <;> first | (simp at h; done) | (simp at h; exact h.2.2.2.symm)) ?_
  intro p l e R s m args below meth c H locs cells slots Q D dA s0 b X L S σ pc' L' S' ls C hf h1 h2 h3 h4 hP hS hL kk
  obtain ⟨hx, hb, hr, hml, hown, hlk, hini, hts, hK, hnw, hao, hX, hbs, hs0⟩ := C
  rcases S with _ | ⟨y1 | r1, _ | ⟨x1 | r2, S0⟩⟩
  all_goals first | (cases hf; done) | skip
  cases hf
  exact lv_imul hx hb hd (kk ls hL)
theorem jo_iand {y pc : Nat} (hd : decode (jm_by y) pc = .ok (.iand, 1)) : jm_Ok y pc (jb_iand) := by
  refine jm_pure (by intro X L S σ o h; simp only [jb_iand, jk_bin] at h; (repeat' (split at h)) <;> simp at h) (by intro X pc L S σ pc' L' S' σ' h; simp only [jb_iand, jk_bin] at h; (repeat' (split at h)) <;> first | (simp at h; done) | (simp at h; exact h.2.2.2.symm)) ?_
  intro p l e R s m args below meth c H locs cells slots Q D dA s0 b X L S σ pc' L' S' ls C hf h1 h2 h3 h4 hP hS hL kk
  obtain ⟨hx, hb, hr, hml, hown, hlk, hini, hts, hK, hnw, hao, hX, hbs, hs0⟩ := C
  rcases S with _ | ⟨y1 | r1, _ | ⟨x1 | r2, S0⟩⟩
  all_goals first | (cases hf; done) | skip
  cases hf
  exact lv_iand hx hb hd (kk ls hL)
theorem jo_ior {y pc : Nat} (hd : decode (jm_by y) pc = .ok (.ior, 1)) : jm_Ok y pc (jb_ior) := by
  refine jm_pure (by intro X L S σ o h; simp only [jb_ior, jk_bin] at h; (repeat' (split at h)) <;> simp at h) (by intro X pc L S σ pc' L' S' σ' h; simp only [jb_ior, jk_bin] at h; (repeat' (split at h)) <;> first | (simp at h; done) | (simp at h; exact h.2.2.2.symm)) ?_
  intro p l e R s m args below meth c H locs cells slots Q D dA s0 b X L S σ pc' L' S' ls C hf h1 h2 h3 h4 hP hS hL kk
  obtain ⟨hx, hb, hr, hml, hown, hlk, hini, hts, hK, hnw, hao, hX, hbs, hs0⟩ := C
  rcases S with _ | ⟨y1 | r1, _ | ⟨x1 | r2, S0⟩⟩
  all_goals first | (cases hf; done) | skip
  cases hf
  exact lv_ior hx hb hd (kk ls hL)
theorem jo_ixor {y pc : Nat} (hd : decode (jm_by y) pc = .ok (.ixor, 1)) : jm_Ok y pc (jb_ixor) := by
  refine jm_pure (by intro X L S σ o h; simp only [jb_ixor, jk_bin] at h; (repeat' (split at h)) <;> simp at h) (by intro X pc L S σ pc' L' S' σ' h; simp only [jb_ixor, jk_bin] at h; (repeat' (split at h)) <;> first | (simp at h; done) | (simp at h; exact h.2.2.2.symm)) ?_
  intro p l e R s m args below meth c H locs cells slots Q D dA s0 b X L S σ pc' L' S' ls C hf h1 h2 h3 h4 hP hS hL kk
  obtain ⟨hx, hb, hr, hml, hown, hlk, hini, hts, hK, hnw, hao, hX, hbs, hs0⟩ := C
  rcases S with _ | ⟨y1 | r1, _ | ⟨x1 | r2, S0⟩⟩
  all_goals first | (cases hf; done) | skip
  cases hf
  exact lv_ixor hx hb hd (kk ls hL)
theorem jo_ishl {y pc : Nat} (hd : decode (jm_by y) pc = .ok (.ishl, 1)) : jm_Ok y pc (jb_ishl) := by
  refine jm_pure (by intro X L S σ o h; simp only [jb_ishl, jk_bin] at h; (repeat' (split at h)) <;> simp at h) (by intro X pc L S σ pc' L' S' σ' h; simp only [jb_ishl, jk_bin] at h; (repeat' (split at h)) <;> first | (simp at h; done) | (simp at h; exact h.2.2.2.symm)) ?_
  intro p l e R s m args below meth c H locs cells slots Q D dA s0 b X L S σ pc' L' S' ls C hf h1 h2 h3 h4 hP hS hL kk
  obtain ⟨hx, hb, hr, hml, hown, hlk, hini, hts, hK, hnw, hao, hX, hbs, hs0⟩ := C
  rcases S with _ | ⟨y1 | r1, _ | ⟨x1 | r2, S0⟩⟩
  all_goals first | (cases hf; done) | skip
  cases hf
  exact lv_ishl hx hb hd (kk ls hL)
theorem jo_ishr {y pc : Nat} (hd : decode (jm_by y) pc = .ok (.ishr, 1)) : jm_Ok y pc (jb_ishr) := by
  refine jm_pure (by intro X L S σ o h; simp only [jb_ishr, jk_bin] at h; (repeat' (split at h)) <;> simp at h) (by intro X pc L S σ pc' L' S' σ' h; simp only [jb_ishr, jk_bin] at h; (repeat' (split at h)) <;> first | (simp at h; done) | (simp at h; exact h.2.2.2.symm)) ?_
  intro p l e R s m args below meth c H locs cells slots Q D dA s0 b X L S σ pc' L' S' ls C hf h1 h2 h3 h4 hP hS hL kk
  obtain ⟨hx, hb, hr, hml, hown, hlk, hini, hts, hK, hnw, hao, hX, hbs, hs0⟩ := C
  rcases S with _ | ⟨y1 | r1, _ | ⟨x1 | r2, S0⟩⟩
  all_goals first | (cases hf; done) | skip
  cases hf
  exact lv_ishr hx hb hd (kk ls hL)
theorem jo_iushr {y pc : Nat} (hd : decode (jm_by y) pc = .ok (.iushr, 1)) : jm_Ok y pc (jb_iushr) := by
  refine jm_pure (by intro X L S σ o h; simp only [jb_iushr, jk_bin] at h; (repeat' (split at h)) <;> simp at h) (by intro X pc L S σ pc' L' S' σ' h; simp only [jb_iushr, jk_bin] at h; (repeat' (split at h)) <;> first | (simp at h; done) | (simp at h; exact h.2.2.2.symm)) ?_
  intro p l e R s m args below meth c H locs cells slots Q D dA s0 b X L S σ pc' L' S' ls C hf h1 h2 h3 h4 hP hS hL kk
  obtain ⟨hx, hb, hr, hml, hown, hlk, hini, hts, hK, hnw, hao, hX, hbs, hs0⟩ := C
  rcases S with _ | ⟨y1 | r1, _ | ⟨x1 | r2, S0⟩⟩
  all_goals first | (cases hf; done) | skip
  cases hf
  exact lv_iushr hx hb hd rfl (kk ls hL)
theorem jo_idiv {y pc : Nat} (hd : decode (jm_by y) pc = .ok (.idiv, 1)) : jm_Ok y pc (jk_div) := by
  refine jm_pure (by intro X L S σ o h; simp only [jk_div] at h; (repeat' (split at h)) <;> simp at h) (by intro X pc L S σ pc' L' S' σ' h; simp only [jk_div] at h; (repeat' (split at h)) <;> first | (simp at h; done) | (simp at h; exact h.2.2.2.symm)) ?_
  intro p l e R s m args below meth c H locs cells slots Q D dA s0 b X L S σ pc' L' S' ls C hf h1 h2 h3 h4 hP hS hL kk
  obtain ⟨hx, hb, hr, hml, hown, hlk, hini, hts, hK, hnw, hao, hX, hbs, hs0⟩ := C
  rcases S with _ | ⟨y1 | r1, _ | ⟨x1 | r2, S0⟩⟩
  all_goals first | (cases hf; done) | skip
  simp only [jk_div] at hf
  split at hf
  · cases hf
  · rename_i hz
    cases hf
    exact lv_idiv hx hb hd hz (kk ls hL)
theorem jo_irem {y pc : Nat} (hd : decode (jm_by y) pc = .ok (.irem, 1)) : jm_Ok y pc (jk_rem) := by
  refine jm_pure (by intro X L S σ o h; simp only [jk_rem] at h; (repeat' (split at h)) <;> simp at h) (by intro X pc L S σ pc' L' S' σ' h; simp only [jk_rem] at h; (repeat' (split at h)) <;> first | (simp at h; done) | (simp at h; exact h.2.2.2.symm)) ?_
  intro p l e R s m args below meth c H locs cells slots Q D dA s0 b X L S σ pc' L' S' ls C hf h1 h2 h3 h4 hP hS hL kk
  obtain ⟨hx, hb, hr, hml, hown, hlk, hini, hts, hK, hnw, hao, hX, hbs, hs0⟩ := C
  rcases S with _ | ⟨y1 | r1, _ | ⟨x1 | r2, S0⟩⟩
  all_goals first | (cases hf; done) | skip
  simp only [jk_rem] at hf
  split at hf
  · cases hf
  · rename_i hz
    cases hf
    exact lv_irem hx hb hd hz (kk ls hL)
theorem jo_ineg {y pc : Nat} (hd : decode (jm_by y) pc = .ok (.ineg, 1)) : jm_Ok y pc (jk_neg) := by
  refine jm_pure (by intro X L S σ o h; simp only [jk_neg] at h; (repeat' (split at h)) <;> simp at h) (by intro X pc L S σ pc' L' S' σ' h; simp only [jk_neg] at h; (repeat' (split at h)) <;> first | (simp at h; done) | (simp at h; exact h.2.2.2.symm)) ?_
  intro p l e R s m args below meth c H locs cells slots Q D dA s0 b X L S σ pc' L' S' ls C hf h1 h2 h3 h4 hP hS hL kk
  obtain ⟨hx, hb, hr, hml, hown, hlk, hini, hts, hK, hnw, hao, hX, hbs, hs0⟩ := C
  rcases S with _ | ⟨x1 | r1, S0⟩
  all_goals first | (cases hf; done) | skip
  cases hf
  exact lv_ineg hx hb hd (kk ls hL)
theorem jo_goto {y pc t : Nat} {off : Int} (hd : decode (jm_by y) pc = .ok (.goto off, 3)) (ht : (pc : Int) + off = (t : Int)) : jm_Ok y pc (jk_goto t) := by
  refine jm_pure (by intro X L S σ o h; simp only [jk_goto] at h; (repeat' (split at h)) <;> simp at h) (by intro X pc L S σ pc' L' S' σ' h; simp only [jk_goto] at h; (repeat' (split at h)) <;> first | (simp at h; done) | (simp at h; exact h.2.2.2.symm)) ?_
  intro p l e R s m args below meth c H locs cells slots Q D dA s0 b X L S σ pc' L' S' ls C hf h1 h2 h3 h4 hP hS hL kk
  obtain ⟨hx, hb, hr, hml, hown, hlk, hini, hts, hK, hnw, hao, hX, hbs, hs0⟩ := C
  cases hf
  exact lv_goto hx hb hd ht (kk ls hL)
theorem jo_if_eq {y pc t : Nat} {off : Int} (hd : decode (jm_by y) pc = .ok (.ifCond .eq off, 3)) (ht : (pc : Int) + off = (t : Int)) : jm_Ok y pc (jk_if .eq t) := by
  refine jm_pure (by intro X L S σ o h; simp only [jk_if] at h; (repeat' (split at h)) <;> simp at h) (by intro X pc L S σ pc' L' S' σ' h; simp only [jk_if] at h; (repeat' (split at h)) <;> first | (simp at h; done) | (simp at h; exact h.2.2.2.symm)) ?_
  intro p l e R s m args below meth c H locs cells slots Q D dA s0 b X L S σ pc' L' S' ls C hf h1 h2 h3 h4 hP hS hL kk
  obtain ⟨hx, hb, hr, hml, hown, hlk, hini, hts, hK, hnw, hao, hX, hbs, hs0⟩ := C
  rcases S with _ | ⟨x1 | r1, S0⟩
  all_goals first | (cases hf; done) | skip
  simp only [jk_if] at hf
  refine lv_if_eq hx hb hd ht (fun hq => ?_) (fun hq => ?_)
  · rw [if_pos (by simpa [jm_c] using hq)] at hf
    cases hf
    exact kk ls hL
  · rw [if_neg (by simpa [jm_c] using hq)] at hf
    cases hf
    exact kk ls hL
theorem jo_icmp_eq {y pc t : Nat} {off : Int} (hd : decode (jm_by y) pc = .ok (.if_icmp .eq off, 3)) (ht : (pc : Int) + off = (t : Int)) : jm_Ok y pc (jk_icmp .eq t) := by
  refine jm_pure (by intro X L S σ o h; simp only [jk_icmp] at h; (repeat' (split at h)) <;> simp at h) (by intro X pc L S σ pc' L' S' σ' h; simp only [jk_icmp] at h; (repeat' (split at h)) <;> first | (simp at h; done) | (simp at h; exact h.2.2.2.symm)) ?_
  intro p l e R s m args below meth c H locs cells slots Q D dA s0 b X L S σ pc' L' S' ls C hf h1 h2 h3 h4 hP hS hL kk
  obtain ⟨hx, hb, hr, hml, hown, hlk, hini, hts, hK, hnw, hao, hX, hbs, hs0⟩ := C
  rcases S with _ | ⟨y1 | r1, _ | ⟨x1 | r2, S0⟩⟩
  all_goals first | (cases hf; done) | skip
  simp only [jk_icmp] at hf
  refine lv_icmp_eq hx hb hd ht (fun hq => ?_) (fun hq => ?_)
  · rw [if_pos (by simpa [jm_c] using hq)] at hf
    cases hf
    exact kk ls hL
  · rw [if_neg (by simpa [jm_c] using hq)] at hf
    cases hf
    exact kk ls hL
theorem jo_if_ne {y pc t : Nat} {off : Int} (hd : decode (jm_by y) pc = .ok (.ifCond .ne off, 3)) (ht : (pc : Int) + off = (t : Int)) : jm_Ok y pc (jk_if .ne t) := by
  refine jm_pure (by intro X L S σ o h; simp only [jk_if] at h; (repeat' (split at h)) <;> simp at h) (by intro X pc L S σ pc' L' S' σ' h; simp only [jk_if] at h; (repeat' (split at h)) <;> first | (simp at h; done) | (simp at h; exact h.2.2.2.symm)) ?_
  intro p l e R s m args below meth c H locs cells slots Q D dA s0 b X L S σ pc' L' S' ls C hf h1 h2 h3 h4 hP hS hL kk
  obtain ⟨hx, hb, hr, hml, hown, hlk, hini, hts, hK, hnw, hao, hX, hbs, hs0⟩ := C
  rcases S with _ | ⟨x1 | r1, S0⟩
  all_goals first | (cases hf; done) | skip
  simp only [jk_if] at hf
  refine lv_if_ne hx hb hd ht (fun hq => ?_) (fun hq => ?_)
  · rw [if_pos (by simpa [jm_c] using hq)] at hf
    cases hf
    exact kk ls hL
  · rw [if_neg (by simpa [jm_c] using hq)] at hf
    cases hf
    exact kk ls hL
theorem jo_icmp_ne {y pc t : Nat} {off : Int} (hd : decode (jm_by y) pc = .ok (.if_icmp .ne off, 3)) (ht : (pc : Int) + off = (t : Int)) : jm_Ok y pc (jk_icmp .ne t) := by
  refine jm_pure (by intro X L S σ o h; simp only [jk_icmp] at h; (repeat' (split at h)) <;> simp at h) (by intro X pc L S σ pc' L' S' σ' h; simp only [jk_icmp] at h; (repeat' (split at h)) <;> first | (simp at h; done) | (simp at h; exact h.2.2.2.symm)) ?_
  intro p l e R s m args below meth c H locs cells slots Q D dA s0 b X L S σ pc' L' S' ls C hf h1 h2 h3 h4 hP hS hL kk
  obtain ⟨hx, hb, hr, hml, hown, hlk, hini, hts, hK, hnw, hao, hX, hbs, hs0⟩ := C
  rcases S with _ | ⟨y1 | r1, _ | ⟨x1 | r2, S0⟩⟩
  all_goals first | (cases hf; done) | skip
  simp only [jk_icmp] at hf
  refine lv_icmp_ne hx hb hd ht (fun hq => ?_) (fun hq => ?_)
  · rw [if_pos (by simpa [jm_c] using hq)] at hf
    cases hf
    exact kk ls hL
  · rw [if_neg (by simpa [jm_c] using hq)] at hf
    cases hf
    exact kk ls hL
theorem jo_if_lt {y pc t : Nat} {off : Int} (hd : decode (jm_by y) pc = .ok (.ifCond .lt off, 3)) (ht : (pc : Int) + off = (t : Int)) : jm_Ok y pc (jk_if .lt t) := by
  refine jm_pure (by intro X L S σ o h; simp only [jk_if] at h; (repeat' (split at h)) <;> simp at h) (by intro X pc L S σ pc' L' S' σ' h; simp only [jk_if] at h; (repeat' (split at h)) <;> first | (simp at h; done) | (simp at h; exact h.2.2.2.symm)) ?_
  intro p l e R s m args below meth c H locs cells slots Q D dA s0 b X L S σ pc' L' S' ls C hf h1 h2 h3 h4 hP hS hL kk
  obtain ⟨hx, hb, hr, hml, hown, hlk, hini, hts, hK, hnw, hao, hX, hbs, hs0⟩ := C
  rcases S with _ | ⟨x1 | r1, S0⟩
  all_goals first | (cases hf; done) | skip
  simp only [jk_if] at hf
  refine lv_if_lt hx hb hd ht (fun hq => ?_) (fun hq => ?_)
  · rw [if_pos (by simpa [jm_c] using hq)] at hf
    cases hf
    exact kk ls hL
  · rw [if_neg (by simpa [jm_c] using hq)] at hf
    cases hf
    exact kk ls hL
theorem jo_icmp_lt {y pc t : Nat} {off : Int} (hd : decode (jm_by y) pc = .ok (.if_icmp .lt off, 3)) (ht : (pc : Int) + off = (t : Int)) : jm_Ok y pc (jk_icmp .lt t) := by
  refine jm_pure (by intro X L S σ o h; simp only [jk_icmp] at h; (repeat' (split at h)) <;> simp at h) (by intro X pc L S σ pc' L' S' σ' h; simp only [jk_icmp] at h; (repeat' (split at h)) <;> first | (simp at h; done) | (simp at h; exact h.2.2.2.symm)) ?_
  intro p l e R s m args below meth c H locs cells slots Q D dA s0 b X L S σ pc' L' S' ls C hf h1 h2 h3 h4 hP hS hL kk
  obtain ⟨hx, hb, hr, hml, hown, hlk, hini, hts, hK, hnw, hao, hX, hbs, hs0⟩ := C
  rcases S with _ | ⟨y1 | r1, _ | ⟨x1 | r2, S0⟩⟩
  all_goals first | (cases hf; done) | skip
  simp only [jk_icmp] at hf
  refine lv_icmp_lt hx hb hd ht (fun hq => ?_) (fun hq => ?_)
  · rw [if_pos (by simpa [jm_c] using hq)] at hf
    cases hf
    exact kk ls hL
  · rw [if_neg (by simpa [jm_c] using hq)] at hf
    cases hf
    exact kk ls hL
theorem jo_if_ge {y pc t : Nat} {off : Int} (hd : decode (jm_by y) pc = .ok (.ifCond .ge off, 3)) (ht : (pc : Int) + off = (t : Int)) : jm_Ok y pc (jk_if .ge t) := by
  refine jm_pure (by intro X L S σ o h; simp only [jk_if] at h; (repeat' (split at h)) <;> simp at h) (by intro X pc L S σ pc' L' S' σ' h; simp only [jk_if] at h; (repeat' (split at h)) <;> first | (simp at h; done) | (simp at h; exact h.2.2.2.symm)) ?_
  intro p l e R s m args below meth c H locs cells slots Q D dA s0 b X L S σ pc' L' S' ls C hf h1 h2 h3 h4 hP hS hL kk
  obtain ⟨hx, hb, hr, hml, hown, hlk, hini, hts, hK, hnw, hao, hX, hbs, hs0⟩ := C
  rcases S with _ | ⟨x1 | r1, S0⟩
  all_goals first | (cases hf; done) | skip
  simp only [jk_if] at hf
  refine lv_if_ge hx hb hd ht (fun hq => ?_) (fun hq => ?_)
  · rw [if_pos (by simpa [jm_c] using hq)] at hf
    cases hf
    exact kk ls hL
  · rw [if_neg (by simpa [jm_c] using hq)] at hf
    cases hf
    exact kk ls hL
theorem jo_icmp_ge {y pc t : Nat} {off : Int} (hd : decode (jm_by y) pc = .ok (.if_icmp .ge off, 3)) (ht : (pc : Int) + off = (t : Int)) : jm_Ok y pc (jk_icmp .ge t) := by
  refine jm_pure (by intro X L S σ o h; simp only [jk_icmp] at h; (repeat' (split at h)) <;> simp at h) (by intro X pc L S σ pc' L' S' σ' h; simp only [jk_icmp] at h; (repeat' (split at h)) <;> first | (simp at h; done) | (simp at h; exact h.2.2.2.symm)) ?_
  intro p l e R s m args below meth c H locs cells slots Q D dA s0 b X L S σ pc' L' S' ls C hf h1 h2 h3 h4 hP hS hL kk
  obtain ⟨hx, hb, hr, hml, hown, hlk, hini, hts, hK, hnw, hao, hX, hbs, hs0⟩ := C
  rcases S with _ | ⟨y1 | r1, _ | ⟨x1 | r2, S0⟩⟩
  all_goals first | (cases hf; done) | skip
  simp only [jk_icmp] at hf
  refine lv_icmp_ge hx hb hd ht (fun hq => ?_) (fun hq => ?_)
  · rw [if_pos (by simpa [jm_c] using hq)] at hf
    cases hf
    exact kk ls hL
  · rw [if_neg (by simpa [jm_c] using hq)] at hf
    cases hf
    exact kk ls hL
theorem jo_if_gt {y pc t : Nat} {off : Int} (hd : decode (jm_by y) pc = .ok (.ifCond .gt off, 3)) (ht : (pc : Int) + off = (t : Int)) : jm_Ok y pc (jk_if .gt t) := by
  refine jm_pure (by intro X L S σ o h; simp only [jk_if] at h; (repeat' (split at h)) <;> simp at h) (by intro X pc L S σ pc' L' S' σ' h; simp only [jk_if] at h; (repeat' (split at h)) <;> first | (simp at h; done) | (simp at h; exact h.2.2.2.symm)) ?_
  intro p l e R s m args below meth c H locs cells slots Q D dA s0 b X L S σ pc' L' S' ls C hf h1 h2 h3 h4 hP hS hL kk
  obtain ⟨hx, hb, hr, hml, hown, hlk, hini, hts, hK, hnw, hao, hX, hbs, hs0⟩ := C
  rcases S with _ | ⟨x1 | r1, S0⟩
  all_goals first | (cases hf; done) | skip
  simp only [jk_if] at hf
  refine lv_if_gt hx hb hd ht (fun hq => ?_) (fun hq => ?_)
  · rw [if_pos (by simpa [jm_c] using hq)] at hf
    cases hf
    exact kk ls hL
  · rw [if_neg (by simpa [jm_c] using hq)] at hf
    cases hf
    exact kk ls hL
theorem jo_icmp_gt {y pc t : Nat} {off : Int} (hd : decode (jm_by y) pc = .ok (.if_icmp .gt off, 3)) (ht : (pc : Int) + off = (t : Int)) : jm_Ok y pc (jk_icmp .gt t) := by
  refine jm_pure (by intro X L S σ o h; simp only [jk_icmp] at h; (repeat' (split at h)) <;> simp at h) (by intro X pc L S σ pc' L' S' σ' h; simp only [jk_icmp] at h; (repeat' (split at h)) <;> first | (simp at h; done) | (simp at h; exact h.2.2.2.symm)) ?_
  intro p l e R s m args below meth c H locs cells slots Q D dA s0 b X L S σ pc' L' S' ls C hf h1 h2 h3 h4 hP hS hL kk
  obtain ⟨hx, hb, hr, hml, hown, hlk, hini, hts, hK, hnw, hao, hX, hbs, hs0⟩ := C
  rcases S with _ | ⟨y1 | r1, _ | ⟨x1 | r2, S0⟩⟩
  all_goals first | (cases hf; done) | skip
  simp only [jk_icmp] at hf
  refine lv_icmp_gt hx hb hd ht (fun hq => ?_) (fun hq => ?_)
  · rw [if_pos (by simpa [jm_c] using hq)] at hf
    cases hf
    exact kk ls hL
  · rw [if_neg (by simpa [jm_c] using hq)] at hf
    cases hf
    exact kk ls hL
theorem jo_if_le {y pc t : Nat} {off : Int} (hd : decode (jm_by y) pc = .ok (.ifCond .le off, 3)) (ht : (pc : Int) + off = (t : Int)) : jm_Ok y pc (jk_if .le t) := by
  refine jm_pure (by intro X L S σ o h; simp only [jk_if] at h; (repeat' (split at h)) <;> simp at h) (by intro X pc L S σ pc' L' S' σ' h; simp only [jk_if] at h; (repeat' (split at h)) <;> first | (simp at h; done) | (simp at h; exact h.2.2.2.symm)) ?_
  intro p l e R s m args below meth c H locs cells slots Q D dA s0 b X L S σ pc' L' S' ls C hf h1 h2 h3 h4 hP hS hL kk
  obtain ⟨hx, hb, hr, hml, hown, hlk, hini, hts, hK, hnw, hao, hX, hbs, hs0⟩ := C
  rcases S with _ | ⟨x1 | r1, S0⟩
  all_goals first | (cases hf; done) | skip
  simp only [jk_if] at hf
  refine lv_if_le hx hb hd ht (fun hq => ?_) (fun hq => ?_)
  · rw [if_pos (by simpa [jm_c] using hq)] at hf
    cases hf
    exact kk ls hL
  · rw [if_neg (by simpa [jm_c] using hq)] at hf
    cases hf
    exact kk ls hL
theorem jo_icmp_le {y pc t : Nat} {off : Int} (hd : decode (jm_by y) pc = .ok (.if_icmp .le off, 3)) (ht : (pc : Int) + off = (t : Int)) : jm_Ok y pc (jk_icmp .le t) := by
  refine jm_pure (by intro X L S σ o h; simp only [jk_icmp] at h; (repeat' (split at h)) <;> simp at h) (by intro X pc L S σ pc' L' S' σ' h; simp only [jk_icmp] at h; (repeat' (split at h)) <;> first | (simp at h; done) | (simp at h; exact h.2.2.2.symm)) ?_
  intro p l e R s m args below meth c H locs cells slots Q D dA s0 b X L S σ pc' L' S' ls C hf h1 h2 h3 h4 hP hS hL kk
  obtain ⟨hx, hb, hr, hml, hown, hlk, hini, hts, hK, hnw, hao, hX, hbs, hs0⟩ := C
  rcases S with _ | ⟨y1 | r1, _ | ⟨x1 | r2, S0⟩⟩
  all_goals first | (cases hf; done) | skip
  simp only [jk_icmp] at hf
  refine lv_icmp_le hx hb hd ht (fun hq => ?_) (fun hq => ?_)
  · rw [if_pos (by simpa [jm_c] using hq)] at hf
    cases hf
    exact kk ls hL
  · rw [if_neg (by simpa [jm_c] using hq)] at hf
    cases hf
    exact kk ls hL
theorem jo_ifnull {y pc t : Nat} {off : Int} (hd : decode (jm_by y) pc = .ok (.ifnull off, 3)) (ht : (pc : Int) + off = (t : Int)) : jm_Ok y pc (jk_ifnull t) := by
  refine jm_pure (by intro X L S σ o h; simp only [jk_ifnull] at h; (repeat' (split at h)) <;> simp at h) (by intro X pc L S σ pc' L' S' σ' h; simp only [jk_ifnull] at h; (repeat' (split at h)) <;> first | (simp at h; done) | (simp at h; exact h.2.2.2.symm)) ?_
  intro p l e R s m args below meth c H locs cells slots Q D dA s0 b X L S σ pc' L' S' ls C hf h1 h2 h3 h4 hP hS hL kk
  obtain ⟨hx, hb, hr, hml, hown, hlk, hini, hts, hK, hnw, hao, hX, hbs, hs0⟩ := C
  rcases S with _ | ⟨x1 | (_ | a) | u, S0⟩
  · cases hf
  · cases hf
  · cases hf
    exact lv_ifnullN hx hb hd ht (kk ls hL)
  · cases hf
    exact lv_ifnull hx hb hd (kk ls hL)
  · cases hf
theorem jo_ifnonnull {y pc t : Nat} {off : Int} (hd : decode (jm_by y) pc = .ok (.ifnonnull off, 3)) (ht : (pc : Int) + off = (t : Int)) : jm_Ok y pc (jk_ifnonnull t) := by
  refine jm_pure (by intro X L S σ o h; simp only [jk_ifnonnull] at h; (repeat' (split at h)) <;> simp at h) (by intro X pc L S σ pc' L' S' σ' h; simp only [jk_ifnonnull] at h; (repeat' (split at h)) <;> first | (simp at h; done) | (simp at h; exact h.2.2.2.symm)) ?_
  intro p l e R s m args below meth c H locs cells slots Q D dA s0 b X L S σ pc' L' S' ls C hf h1 h2 h3 h4 hP hS hL kk
  obtain ⟨hx, hb, hr, hml, hown, hlk, hini, hts, hK, hnw, hao, hX, hbs, hs0⟩ := C
  rcases S with _ | ⟨x1 | (_ | a) | u, S0⟩
  · cases hf
  · cases hf
  · cases hf
    exact lv_ifnonnullN hx hb hd (kk ls hL)
  · cases hf
    exact lv_ifnonnull hx hb hd ht (kk ls hL)
  · cases hf
theorem jo_getf {y pc ci k idx : Nat} {q : vw_C} (hd : decode (jm_by y) pc = .ok (.getfield idx, 3)) (hc : vwCl[ci]? = some q) (hk : k < q.2.2) (hin : ∀ w ∈ u_ws q.1 q.2.1 q.2.2, w ∈ jm_gw) (hl : Cond.fieldLink (jm_nm y).cls idx (q.2.1 k).1 (q.2.1 k).2.1 (q.2.1 k).2.2.1 ∈ jm_gw) : jm_Ok y pc (jk_getf ci k) := by
  refine jm_pure (by intro X L S σ o h; simp only [jk_getf] at h; (repeat' (split at h)) <;> simp at h) (by intro X pc L S σ pc' L' S' σ' h; simp only [jk_getf] at h; (repeat' (split at h)) <;> first | (simp at h; done) | (simp at h; exact h.2.2.2.symm)) ?_
  intro p l e R s m args below meth c H locs cells slots Q D dA s0 b X L S σ pc' L' S' ls C hf h1 h2 h3 h4 hP hS hL kk
  obtain ⟨hx, hb, hr, hml, hown, hlk, hini, hts, hK, hnw, hao, hX, hbs, hs0⟩ := C
  rcases S with _ | ⟨x1 | (_ | a) | u, S0⟩
  all_goals first | (cases hf; done) | skip
  simp only [jk_getf] at hf
  split at hf
  · rename_i cj fs hh
    split at hf
    · rename_i v hv
      split at hf
      · rename_i hcj
        cases hf
        subst hcj
        exact va_get (D := D) (v := jm_cv s0 b v) (fs := fs.map (jm_cv s0 b)) hx hb hts hin hown hK hP a (jm_wl_at hh) hc k hk (hts _ hl) (fun _ h9 => h9) (by rw [List.getElem?_map, hv]; rfl) hd (kk ls hL)
      · cases hf
    · cases hf
  · cases hf
theorem jo_getN {y pc ci k idx : Nat} {q : vw_C} {host : String} (hd : decode (jm_by y) pc = .ok (.getfield idx, 3)) (hc : vwCl[ci]? = some q) (hk : k < q.2.2) (hin : ∀ w ∈ u_ws q.1 q.2.1 q.2.2, w ∈ jm_gw) (hl : Cond.fieldLinkNest (jm_nm y).cls idx (q.2.1 k).1 (q.2.1 k).2.1 (q.2.1 k).2.2.1 host ∈ jm_nw) : jm_Ok y pc (jk_getf ci k) := by
  refine jm_pure (by intro X L S σ o h; simp only [jk_getf] at h; (repeat' (split at h)) <;> simp at h) (by intro X pc L S σ pc' L' S' σ' h; simp only [jk_getf] at h; (repeat' (split at h)) <;> first | (simp at h; done) | (simp at h; exact h.2.2.2.symm)) ?_
  intro p l e R s m args below meth c H locs cells slots Q D dA s0 b X L S σ pc' L' S' ls C hf h1 h2 h3 h4 hP hS hL kk
  obtain ⟨hx, hb, hr, hml, hown, hlk, hini, hts, hK, hnw, hao, hX, hbs, hs0⟩ := C
  rcases S with _ | ⟨x1 | (_ | a) | u, S0⟩
  all_goals first | (cases hf; done) | skip
  simp only [jk_getf] at hf
  split at hf
  · rename_i cj fs hh
    split at hf
    · rename_i v hv
      split at hf
      · rename_i hcj
        cases hf
        subst hcj
        exact va_getN (D := D) (v := jm_cv s0 b v) (fs := fs.map (jm_cv s0 b)) hx hb hts hin hown hK hP a (jm_wl_at hh) hc k hk (va_Nw.use rfl (hnw _ hl)) (fun _ h9 => h9) (by rw [List.getElem?_map, hv]; rfl) hd (kk ls hL)
      · cases hf
    · cases hf
  · cases hf
theorem jo_iald {y pc : Nat} (hd : decode (jm_by y) pc = .ok (.iaload, 1)) (ht : jm_at[0]? = some .int) : jm_Ok y pc (jk_ald 0) := by
  refine jm_pure (by intro X L S σ o h; simp only [jk_ald] at h; (repeat' (split at h)) <;> simp at h) (by intro X pc L S σ pc' L' S' σ' h; simp only [jk_ald] at h; (repeat' (split at h)) <;> first | (simp at h; done) | (simp at h; exact h.2.2.2.symm)) ?_
  intro p l e R s m args below meth c H locs cells slots Q D dA s0 b X L S σ pc' L' S' ls C hf h1 h2 h3 h4 hP hS hL kk
  obtain ⟨hx, hb, hr, hml, hown, hlk, hini, hts, hK, hnw, hao, hX, hbs, hs0⟩ := C
  rcases S with _ | ⟨i | r1, _ | ⟨x2 | (_ | a) | u, S0⟩⟩
  all_goals first | (cases hf; done) | skip
  simp only [jk_ald] at hf
  split at hf
  · rename_i t' n f hh
    split at hf
    · rename_i hq
      obtain ⟨hq1, hq2⟩ := hq
      subst hq1
      cases hf
      exact va_iald hx hb hK hP a 0 (jm_wl_at hh) (jm_tys_at ht) (jm_in_of hq2) hd (kk ls hL)
    · cases hf
  · cases hf
theorem jo_zald {y pc : Nat} (hd : decode (jm_by y) pc = .ok (.baload, 1)) (ht : jm_at[1]? = some .boolean) : jm_Ok y pc (jk_ald 1) := by
  refine jm_pure (by intro X L S σ o h; simp only [jk_ald] at h; (repeat' (split at h)) <;> simp at h) (by intro X pc L S σ pc' L' S' σ' h; simp only [jk_ald] at h; (repeat' (split at h)) <;> first | (simp at h; done) | (simp at h; exact h.2.2.2.symm)) ?_
  intro p l e R s m args below meth c H locs cells slots Q D dA s0 b X L S σ pc' L' S' ls C hf h1 h2 h3 h4 hP hS hL kk
  obtain ⟨hx, hb, hr, hml, hown, hlk, hini, hts, hK, hnw, hao, hX, hbs, hs0⟩ := C
  rcases S with _ | ⟨i | r1, _ | ⟨x2 | (_ | a) | u, S0⟩⟩
  all_goals first | (cases hf; done) | skip
  simp only [jk_ald] at hf
  split at hf
  · rename_i t' n f hh
    split at hf
    · rename_i hq
      obtain ⟨hq1, hq2⟩ := hq
      subst hq1
      cases hf
      exact va_zald hx hb hK hP a 1 (jm_wl_at hh) (jm_tys_at ht) (jm_in_of hq2) hd (kk ls hL)
    · cases hf
  · cases hf
theorem jo_aald {y pc t : Nat} {C0 : String} (hd : decode (jm_by y) pc = .ok (.aaload, 1)) (ht : jm_at[t]? = some (.object C0)) : jm_Ok y pc (jk_aald t) := by
  refine jm_pure (by intro X L S σ o h; simp only [jk_aald] at h; (repeat' (split at h)) <;> simp at h) (by intro X pc L S σ pc' L' S' σ' h; simp only [jk_aald] at h; (repeat' (split at h)) <;> first | (simp at h; done) | (simp at h; exact h.2.2.2.symm)) ?_
  intro p l e R s m args below meth c H locs cells slots Q D dA s0 b X L S σ pc' L' S' ls C hf h1 h2 h3 h4 hP hS hL kk
  obtain ⟨hx, hb, hr, hml, hown, hlk, hini, hts, hK, hnw, hao, hX, hbs, hs0⟩ := C
  rcases S with _ | ⟨i | r1, _ | ⟨x2 | (_ | a) | u, S0⟩⟩
  all_goals first | (cases hf; done) | skip
  simp only [jk_aald] at hf
  split at hf
  · rename_i t' rs hh
    split at hf
    · rename_i hq
      obtain ⟨hq1, hq2⟩ := hq
      subst hq1
      cases hf
      refine va_aldq hx hb hK hP a t' (jm_wl_at hh) (jm_tys_at ht) (jm_in_of hq2) hd ?_
      have e9 : va_rf (((rs[i.toNatClampNeg]?).join).map (fun q => s0 + q)) = jm_cv s0 b (.inr (.inl (rs[i.toNatClampNeg]?).join)) := by cases (rs[i.toNatClampNeg]?).join <;> rfl
      rw [e9]
      exact kk ls hL
    · cases hf
  · cases hf
theorem jo_alen {y pc nt : Nat} (hd : decode (jm_by y) pc = .ok (.arraylength, 1)) (ht : nt = jm_at.length) : jm_Ok y pc (jk_alen nt) := by
  refine jm_pure (by intro X L S σ o h; simp only [jk_alen] at h; (repeat' (split at h)) <;> simp at h) (by intro X pc L S σ pc' L' S' σ' h; simp only [jk_alen] at h; (repeat' (split at h)) <;> first | (simp at h; done) | (simp at h; exact h.2.2.2.symm)) ?_
  intro p l e R s m args below meth c H locs cells slots Q D dA s0 b X L S σ pc' L' S' ls C hf h1 h2 h3 h4 hP hS hL kk
  obtain ⟨hx, hb, hr, hml, hown, hlk, hini, hts, hK, hnw, hao, hX, hbs, hs0⟩ := C
  rcases S with _ | ⟨x1 | (_ | a) | u, S0⟩
  all_goals first | (cases hf; done) | skip
  subst ht
  simp only [jk_alen] at hf
  split at hf
  · rename_i t' n f hh
    split at hf
    · rename_i hq
      cases hf
      exact va_alen hx hb hK hP a t' (jm_wl_at hh) (jm_tys_at (List.getElem?_eq_getElem hq)) rfl hd (kk ls hL)
    · cases hf
  · rename_i t' rs hh
    split at hf
    · rename_i hq
      cases hf
      exact va_alen hx hb hK hP a t' (jm_wl_at hh) (jm_tys_at (List.getElem?_eq_getElem hq)) rfl hd (kk ls hL)
    · cases hf
  · cases hf
theorem jo_slen {y pc : Nat} (hd : decode (jm_by y) pc = .ok (.arraylength, 1)) : jm_Ok y pc (jk_slen) := by
  refine jm_pure (by intro X L S σ o h; simp only [jk_slen] at h; (repeat' (split at h)) <;> simp at h) (by intro X pc L S σ pc' L' S' σ' h; simp only [jk_slen] at h; (repeat' (split at h)) <;> first | (simp at h; done) | (simp at h; exact h.2.2.2.symm)) ?_
  intro p l e R s m args below meth c H locs cells slots Q D dA s0 b X L S σ pc' L' S' ls C hf h1 h2 h3 h4 hP hS hL kk
  obtain ⟨hx, hb, hr, hml, hown, hlk, hini, hts, hK, hnw, hao, hX, hbs, hs0⟩ := C
  rcases S with _ | ⟨x1 | (_ | a) | u, S0⟩
  all_goals first | (cases hf; done) | skip
  cases hf
  exact va_slen hx hb hX (Nat.lt_of_lt_of_le hbs hs0) (Nat.not_le.mpr hbs) hS hd (kk ls hL)
theorem jo_sld {y pc : Nat} (hd : decode (jm_by y) pc = .ok (.iaload, 1)) : jm_Ok y pc (jk_sld) := by
  refine jm_pure (by intro X L S σ o h; simp only [jk_sld] at h; (repeat' (split at h)) <;> simp at h) (by intro X pc L S σ pc' L' S' σ' h; simp only [jk_sld] at h; (repeat' (split at h)) <;> first | (simp at h; done) | (simp at h; exact h.2.2.2.symm)) ?_
  intro p l e R s m args below meth c H locs cells slots Q D dA s0 b X L S σ pc' L' S' ls C hf h1 h2 h3 h4 hP hS hL kk
  obtain ⟨hx, hb, hr, hml, hown, hlk, hini, hts, hK, hnw, hao, hX, hbs, hs0⟩ := C
  rcases S with _ | ⟨i | r1, _ | ⟨x2 | (_ | a) | u, S0⟩⟩
  all_goals first | (cases hf; done) | skip
  simp only [jk_sld] at hf
  split at hf
  · rename_i hq
    cases hf
    exact va_sld hx hb hX (Nat.lt_of_lt_of_le hbs hs0) (Nat.not_le.mpr hbs) hS (jm_in_of hq) hd (kk ls hL)
  · cases hf
theorem jm_catsum (s0 b : Nat) (S : List jm_V) : ((S.map (jm_cv s0 b)).map (fun v => v.category)).sum = S.length := by
  induction S with
  | nil => rfl
  | cons v r ih =>
    have := jm_cat s0 b v
    simp only [List.map_cons, List.sum_cons, List.length_cons]
    omega
theorem jo_oinit {y pc idx : Nat} (hd : decode (jm_by y) pc = .ok (.invokespecial idx, 3)) (hw : Cond.methodLink (jm_nm y).cls idx Lib.objectInit ∈ jm_gw ∧ Cond.instanceMethod Lib.objectInit ∈ jm_gw ∧ Cond.code Lib.objectInit ⟨#[0xb1]⟩ 1 none ∈ jm_gw) : jm_Ok y pc (jk_oinit) := by
  refine jm_pure (by intro X L S σ o h; simp only [jk_oinit] at h; (repeat' (split at h)) <;> simp at h) (by intro X pc L S σ pc' L' S' σ' h; simp only [jk_oinit] at h; (repeat' (split at h)) <;> first | (simp at h; done) | (simp at h; exact h.2.2.2.symm)) ?_
  intro p l e R s m args below meth c H locs cells slots Q D dA s0 b X L S σ pc' L' S' ls C hf h1 h2 h3 h4 hP hS hL kk
  obtain ⟨hx, hb, hr, hml, hown, hlk, hini, hts, hK, hnw, hao, hX, hbs, hs0⟩ := C
  rcases S with _ | ⟨x1 | (_ | a) | u, S0⟩
  all_goals first | (cases hf; done) | skip
  simp only [jk_oinit] at hf
  split at hf
  · rename_i hq
    cases hf
    refine W.objInit (rest := S'.map (jm_cv s0 b)) hx hb hown (hts _ hw.1) (hts _ hw.2.1) (hts _ hw.2.2) rfl (by rw [hml]; exact hL.2.1) rfl hd h1 ?_ (kk ls hL)
    rw [jm_catsum]
    show 2 * 0 + _ + 12 ≤ _
    omega
  · cases hf
theorem jo_max {y pc idx : Nat} (hd : decode (jm_by y) pc = .ok (.invokestatic idx, 3)) (hw : Cond.methodLink (jm_nm y).cls idx Lib.Math.max.name ∈ jm_gw ∧ Cond.static Lib.Math.max.name ∈ jm_gw ∧ Cond.initialized "java/lang/Math" ∈ jm_gw ∧ Cond.code Lib.Math.max.name Lib.Math.max.code 2 (some .int) ∈ jm_gw) : jm_Ok y pc (jk_max) := by
  refine jm_pure (by intro X L S σ o h; simp only [jk_max] at h; (repeat' (split at h)) <;> simp at h) (by intro X pc L S σ pc' L' S' σ' h; simp only [jk_max] at h; (repeat' (split at h)) <;> first | (simp at h; done) | (simp at h; exact h.2.2.2.symm)) ?_
  intro p l e R s m args below meth c H locs cells slots Q D dA s0 b X L S σ pc' L' S' ls C hf h1 h2 h3 h4 hP hS hL kk
  obtain ⟨hx, hb, hr, hml, hown, hlk, hini, hts, hK, hnw, hao, hX, hbs, hs0⟩ := C
  rcases S with _ | ⟨y1 | r1, _ | ⟨x1 | r2, S0⟩⟩
  all_goals first | (cases hf; done) | skip
  simp only [jk_max] at hf
  split at hf
  · rename_i hq
    cases hf
    exact va_mmax hx hb (by rw [hml]; exact hL.2.1.symm) hown (hts _ hw.1) (hts _ hw.2.1) (hts _ hw.2.2.1) (hts _ hw.2.2.2) h1 (by rw [jm_catsum]; omega) h3 h4 hd (kk ls hL)
  · cases hf
theorem jo_min {y pc idx : Nat} (hd : decode (jm_by y) pc = .ok (.invokestatic idx, 3)) (hw : Cond.methodLink (jm_nm y).cls idx Lib.Math.min.name ∈ jm_gw ∧ Cond.static Lib.Math.min.name ∈ jm_gw ∧ Cond.initialized "java/lang/Math" ∈ jm_gw ∧ Cond.code Lib.Math.min.name Lib.Math.min.code 2 (some .int) ∈ jm_gw) : jm_Ok y pc (jk_min) := by
  refine jm_pure (by intro X L S σ o h; simp only [jk_min] at h; (repeat' (split at h)) <;> simp at h) (by intro X pc L S σ pc' L' S' σ' h; simp only [jk_min] at h; (repeat' (split at h)) <;> first | (simp at h; done) | (simp at h; exact h.2.2.2.symm)) ?_
  intro p l e R s m args below meth c H locs cells slots Q D dA s0 b X L S σ pc' L' S' ls C hf h1 h2 h3 h4 hP hS hL kk
  obtain ⟨hx, hb, hr, hml, hown, hlk, hini, hts, hK, hnw, hao, hX, hbs, hs0⟩ := C
  rcases S with _ | ⟨y1 | r1, _ | ⟨x1 | r2, S0⟩⟩
  all_goals first | (cases hf; done) | skip
  simp only [jk_min] at hf
  split at hf
  · rename_i hq
    cases hf
    exact va_mmin hx hb (by rw [hml]; exact hL.2.1.symm) hown (hts _ hw.1) (hts _ hw.2.1) (hts _ hw.2.2.1) (hts _ hw.2.2.2) h1 (by rw [jm_catsum]; omega) h3 h4 hd (kk ls hL)
  · cases hf
