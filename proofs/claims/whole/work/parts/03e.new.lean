/-! making cells -/
/-- where the new cell lies -/
theorem jm_where {D : va_G} {dA : Nat → ClassId} {s0 b q cells : Nat} {h : jm_H} {H0 H1 : Heap} {e : va_E} (hP1 : va_P D vwCl (jm_wl s0 b dA h ++ [(q, e)]) H1) (hD1 : va_D (fun q => s0 ≤ q) (jm_wl s0 b dA h ++ [(q, e)])) (hz : H1.size ≤ H0.size + (cells + 1)) (h5 : H0.size + cells = s0 + h.length) : q = s0 + h.length := by
  have hlen : (jm_wl s0 b dA h).length = h.length := by
    have key : ∀ (g : jm_H) (k : Nat), (jm_wlF s0 b dA k g).length = g.length := by
      intro g
      induction g with
      | nil => intro k; rfl
      | cons c r ih => intro k; simp only [jm_wlF, List.length_cons]; rw [ih]
    exact key h 0
  have hlast : (jm_wl s0 b dA h ++ [(q, e)])[h.length]? = some (q, e) := by
    rw [List.getElem?_append_right (by omega), hlen, Nat.sub_self]; rfl
  have h1 : q < H1.size := (hP1 _ _ hlast).lt
  have h2 : s0 ≤ q := hD1.2 _ _ hlast
  rcases Nat.lt_or_ge (q - s0) h.length with hlt | hge
  · have hg : h[q - s0]? = some h[q - s0] := List.getElem?_eq_getElem hlt
    have hg2 : (jm_wl s0 b dA h ++ [(q, e)])[q - s0]? = some (s0 + (q - s0), jm_cc s0 b dA h[q - s0]) := by
      rw [List.getElem?_append_left (by omega)]
      exact jm_wl_at hg
    have := hD1.1 (q - s0) h.length _ _ hg2 hlast (by show s0 + (q - s0) = q; omega)
    omega
  · omega
theorem jm_wl_push {D : va_G} {dA : Nat → ClassId} {s0 b : Nat} {h : jm_H} {H : Heap} {e : va_E} {c : jm_C} (he : jm_cc s0 b dA c = e) (hP : va_P D vwCl (jm_wl s0 b dA h ++ [(s0 + h.length, e)]) H) : va_P D vwCl (jm_wl s0 b dA (h ++ [c])) H := by
  rw [← jm_wl_app c he rfl]
  exact hP
theorem jo_new {y pc ci idx : Nat} {fs : List jm_V} {q : vw_C} (hd : decode (jm_by y) pc = .ok (.new idx, 3)) (hc : vwCl[ci]? = some q) (ty0 : Nat → FieldType) (hty : ∀ k, k < q.2.2 → parseFieldDescriptor (q.2.1 k).2.2.1 = some (ty0 k)) (hin : ∀ w ∈ u_ws q.1 q.2.1 q.2.2, w ∈ jm_gw) (hw : Cond.classLink (jm_nm y).cls idx q.1 ∈ jm_gw ∧ Cond.instantiable q.1 q.2.2 ∈ jm_gw ∧ Cond.initialized q.1 ∈ jm_gw) (hl : fs.length = q.2.2) (hfs : ∀ s0 b j, j < q.2.2 → defaultValue (ty0 j) = vp_V (fs.map (jm_cv s0 b)) j) : jm_Ok y pc (jk_new ci fs) := by
  refine jm_Ok.ofS ?_ ?_ ?_
  · intro X pc L S σ pc' L' S' σ' h
    cases h
    exact ⟨by simp, Nat.le_add_right _ _⟩
  · intro p l e R s m args below meth c H locs cells slots Q D dA s0 b X L S σ pc' L' S' σ' ls C hf h1 h2 h3 h4 h5 hP hS hL kk
    obtain ⟨hx, hb, hr, hml, hown, hlk, hini, hts, hK, hnw, hao, hX, hbs, hs0⟩ := C
    cases hf
    have e1 : (σ.1 ++ [(.inl (ci, fs) : jm_C)]).length - σ.1.length = 1 := by simp
    have e2 : σ.2 + fs.length - σ.2 = fs.length := by omega
    simp only [e1, e2] at h3 h4 kk
    refine va_new (ci := ci) (fs := fs.map (jm_cv s0 b)) hx hb hts hin ty0 hty hown (hts _ hw.1) (hts _ hw.2.1) (hts _ hw.2.2) hK hP (jm_wl_D s0 b dA σ.1) hS (fun z hz => Nat.le_trans hs0 hz) hc (hfs s0 b) h3 (by rw [← hl]; exact h4) hd (fun a H1 hP1 hD1 hS1 => ?_)
    rw [← hl]
    refine jm_sz (fun hz => ?_)
    have ha := jm_where hP1 hD1 hz h5
    subst ha
    exact kk H1 locs ls (jm_wl_push (c := .inl (ci, fs)) rfl hP1) hS1 hL
  · intro X L S σ o h
    cases h
theorem jm_newi_inv {t : Nat} {X : jm_X} {pc : Nat} {L : jm_L} {S : List jm_V} {σ : jm_S} {o : jm_O} (h : jk_newi t X pc L S σ = some o) : ∃ n S', S = .inl n :: S' ∧ ¬ n < 0 ∧ n.toNatClampNeg ≤ 100000 ∧ o = .inl (pc + 2, L, .inr (.inl (some σ.1.length)) :: S', (σ.1 ++ [.inr (.inl (t, n.toNatClampNeg, fun _ => 0))], σ.2 + n.toNatClampNeg)) := by
  rcases S with _ | ⟨n | r1, S0⟩
  all_goals first | (cases h; done) | skip
  simp only [jk_newi] at h
  split at h
  · rename_i hq
    cases h
    exact ⟨n, S0, rfl, hq.1, hq.2, rfl⟩
  · cases h
theorem jm_newq_inv {t : Nat} {X : jm_X} {pc : Nat} {L : jm_L} {S : List jm_V} {σ : jm_S} {o : jm_O} (h : jk_newq t X pc L S σ = some o) : ∃ n S', S = .inl n :: S' ∧ ¬ n < 0 ∧ n.toNatClampNeg ≤ 100000 ∧ o = .inl (pc + 3, L, .inr (.inl (some σ.1.length)) :: S', (σ.1 ++ [.inr (.inr (t, List.replicate n.toNatClampNeg none))], σ.2 + n.toNatClampNeg)) := by
  rcases S with _ | ⟨n | r1, S0⟩
  all_goals first | (cases h; done) | skip
  simp only [jk_newq] at h
  split at h
  · rename_i hq
    cases h
    exact ⟨n, S0, rfl, hq.1, hq.2, rfl⟩
  · cases h
theorem jo_newi {y pc t : Nat} {atype : ArrayType} {ty : FieldType} (hd : decode (jm_by y) pc = .ok (.newarray atype, 2)) (hty : newarray.typeOf atype = ty) (hti : ty = .int ∨ ty = .boolean) (ht : jm_at[t]? = some ty) (hw : Cond.arrayClass ty ∈ jm_gw) : jm_Ok y pc (jk_newi t) := by
  refine jm_Ok.ofS ?_ ?_ ?_
  · intro X pc L S σ pc' L' S' σ' h
    obtain ⟨n, S0, -, -, -, ho⟩ := jm_newi_inv h
    cases ho
    exact ⟨by simp, Nat.le_add_right _ _⟩
  · intro p l e R s m args below meth c H locs cells slots Q D dA s0 b X L S σ pc' L' S' σ' ls C hf h1 h2 h3 h4 h5 hP hS hL kk
    obtain ⟨hx, hb, hr, hml, hown, hlk, hini, hts, hK, hnw, hao, hX, hbs, hs0⟩ := C
    obtain ⟨n, S0, rfl, hn0, hn1, ho⟩ := jm_newi_inv hf
    cases ho
    have e1 : (σ.1 ++ [(.inr (.inl (t, n.toNatClampNeg, fun _ => 0)) : jm_C)]).length - σ.1.length = 1 := by simp
    have e2 : σ.2 + n.toNatClampNeg - σ.2 = n.toNatClampNeg := by omega
    simp only [e1, e2] at h3 h4 kk
    refine va_newa (a0 := (n.toNatClampNeg, .inl (fun _ => 0))) hx hb (by rw [hty]; exact hts _ hw) hty hK hP (jm_wl_D s0 b dA σ.1) hS (fun z hz => Nat.le_trans hs0 hz) (fun cA => by rcases hti with rfl | rfl <;> rfl) hn0 rfl (by rcases hti with rfl | rfl <;> simp only [componentBytes] <;> omega) h3 h4 hd (fun a cA H1 hK1 hP1 hD1 hS1 => ?_)
    refine jm_sz (fun hz => ?_)
    have ha := jm_where hP1 hD1 hz h5
    subst ha
    have hcA : cA = dA t := by
      have q1 : ((jm_tys dA) ++ [(cA, ty)])[(jm_tys dA).length]? = some (cA, ty) := by
        rw [List.getElem?_append_right (Nat.le_refl _), Nat.sub_self]; rfl
      have z1 := (hK1.2 _ _ q1).2
      have z2 := (hK.2 t _ (jm_tys_at ht)).2
      rcases hti with rfl | rfl <;> exact Option.some.inj (z1.symm.trans z2)
    subst hcA
    exact kk H1 locs ls (jm_wl_push (c := .inr (.inl (t, n.toNatClampNeg, fun _ => 0))) rfl hP1) hS1 hL
  · intro X L S σ o h
    obtain ⟨n, S0, -, -, -, ho⟩ := jm_newi_inv h
    cases ho
theorem jo_newq {y pc t idx : Nat} {C0 : String} (hd : decode (jm_by y) pc = .ok (.anewarray idx, 3)) (ht : jm_at[t]? = some (.object C0)) (hw : Cond.classLink (jm_nm y).cls idx C0 ∈ jm_gw) (ho9 : C0 ∈ jm_ao) : jm_Ok y pc (jk_newq t) := by
  refine jm_Ok.ofS ?_ ?_ ?_
  · intro X pc L S σ pc' L' S' σ' h
    obtain ⟨n, S0, -, -, -, ho⟩ := jm_newq_inv h
    cases ho
    exact ⟨by simp, Nat.le_add_right _ _⟩
  · intro p l e R s m args below meth c H locs cells slots Q D dA s0 b X L S σ pc' L' S' σ' ls C hf h1 h2 h3 h4 h5 hP hS hL kk
    obtain ⟨hx, hb, hr, hml, hown, hlk, hini, hts, hK, hnw, hao, hX, hbs, hs0⟩ := C
    obtain ⟨n, S0, rfl, hn0, hn1, ho⟩ := jm_newq_inv hf
    cases ho
    have e1 : (σ.1 ++ [(.inr (.inr (t, List.replicate n.toNatClampNeg none)) : jm_C)]).length - σ.1.length = 1 := by simp
    have e2 : σ.2 + n.toNatClampNeg - σ.2 = n.toNatClampNeg := by omega
    simp only [e1, e2] at h3 h4 kk
    refine va_newq hx hb hown (hts _ hw) (hao _ ho9) hK hP (jm_wl_D s0 b dA σ.1) hS (fun z hz => Nat.le_trans hs0 hz) hn0 rfl (by omega) h3 h4 hd (fun a cA H1 hK1 hP1 hD1 hS1 => ?_)
    refine jm_sz (fun hz => ?_)
    have ha := jm_where hP1 hD1 hz h5
    subst ha
    have hcA : cA = dA t := by
      have q1 : ((jm_tys dA) ++ [(cA, FieldType.object C0)])[(jm_tys dA).length]? = some (cA, .object C0) := by
        rw [List.getElem?_append_right (Nat.le_refl _), Nat.sub_self]; rfl
      obtain ⟨_, _, _, _, _, z1⟩ := (hK1.2 _ _ q1).2
      obtain ⟨_, _, _, _, _, z2⟩ := (hK.2 t _ (jm_tys_at ht)).2
      exact Option.some.inj (z1.symm.trans z2)
    subst hcA
    have e9 : (fun (j : Nat) => (((List.replicate n.toNatClampNeg (none : Option Nat))[j]?).join).map (fun q => s0 + q)) = fun _ => none := by
      funext j
      simp only [List.getElem?_replicate]
      split <;> rfl
    exact kk H1 locs ls (jm_wl_push (c := .inr (.inr (t, List.replicate n.toNatClampNeg none))) (by simp only [jm_cc, List.length_replicate, e9]) hP1) hS1 hL
  · intro X L S σ o h
    obtain ⟨n, S0, -, -, -, ho⟩ := jm_newq_inv h
    cases ho
/-! returns -/
theorem jo_ret {y pc : Nat} (hd : decode (jm_by y) pc = .ok (.return_, 1)) (ht : jm_rt y = none) : jm_Ok y pc jk_ret := by
  refine jm_Ok.ofR ?_ ?_ ?_ ?_ ?_
  · intro p l e R s m args below meth c H locs cells slots D dA s0 b X L S σ r ls free Qc C hf hq hl
    obtain ⟨hx, hb, hr, hml, hown, hlk, hini, hts, hK, hnw, hao, hX, hbs, hs0⟩ := C
    rcases S with _ | ⟨v, S0⟩
    · cases hf
      exact W.vret hx hb (by rw [hr, ht]) hq hl hd hlk
    · cases hf
  · intro X L S σ o h
    rcases S with _ | ⟨v, S0⟩ <;> cases h
  · intro X L S σ o h
    rcases S with _ | ⟨v, S0⟩ <;> cases h
  · intro X pc L S σ pc' L' S' σ' h
    rcases S with _ | ⟨v, S0⟩ <;> cases h
  · intro X L S σ r _ h; rw [ht] at h; cases h
theorem jo_iret {y pc : Nat} (hd : decode (jm_by y) pc = .ok (.ireturn, 1)) (ht : jm_rt y = some .int) : jm_Ok y pc jk_iret := by
  refine jm_Ok.ofR ?_ ?_ ?_ ?_ ?_
  · intro p l e R s m args below meth c H locs cells slots D dA s0 b X L S σ r ls free Qc C hf hq hl
    obtain ⟨hx, hb, hr, hml, hown, hlk, hini, hts, hK, hnw, hao, hX, hbs, hs0⟩ := C
    rcases S with _ | ⟨v | w, _ | ⟨w2, S0⟩⟩
    all_goals first | (cases hf; done) | skip
    cases hf
    exact W.iret hx hb (by rw [hr, ht]) hq hl hd hlk
  · intro X L S σ o h
    rcases S with _ | ⟨v | w, _ | ⟨w2, S0⟩⟩ <;> cases h
  · intro X L S σ o h
    rcases S with _ | ⟨v | w, _ | ⟨w2, S0⟩⟩ <;> cases h
  · intro X pc L S σ pc' L' S' σ' h
    rcases S with _ | ⟨v | w, _ | ⟨w2, S0⟩⟩ <;> cases h
  · intro X L S σ r _ h; rw [ht] at h; cases h
theorem jm_zret_inv {X : jm_X} {pc : Nat} {L : jm_L} {S : List jm_V} {σ : jm_S} {o : jm_O} (h : jk_zret X pc L S σ = some o) : ∃ x, S = [.inl x] ∧ (x = 0 ∨ x = 1) ∧ o = .inr (.inl (some (.inl x))) := by
  rcases S with _ | ⟨v | w, _ | ⟨w2, S0⟩⟩
  all_goals first | (cases h; done) | skip
  simp only [jk_zret] at h
  split at h
  · rename_i hq
    cases h
    exact ⟨v, rfl, hq, rfl⟩
  · cases h
theorem jo_zret {y pc : Nat} (hd : decode (jm_by y) pc = .ok (.ireturn, 1)) (ht : jm_rt y = some .boolean) : jm_Ok y pc jk_zret := by
  refine jm_Ok.ofR ?_ ?_ ?_ ?_ ?_
  · intro p l e R s m args below meth c H locs cells slots D dA s0 b X L S σ r ls free Qc C hf hq hl
    obtain ⟨hx, hb, hr, hml, hown, hlk, hini, hts, hK, hnw, hao, hX, hbs, hs0⟩ := C
    obtain ⟨x, rfl, h01, ho⟩ := jm_zret_inv hf
    cases ho
    exact W.zret (ty := .boolean) hx hb (by rw [hr, ht]) (by rcases h01 with rfl | rfl <;> decide) hq hl hd hlk
  · intro X L S σ o h
    obtain ⟨x, -, -, ho⟩ := jm_zret_inv h
    cases ho
  · intro X L S σ o h
    obtain ⟨x, -, -, ho⟩ := jm_zret_inv h
    cases ho
  · intro X pc L S σ pc' L' S' σ' h
    obtain ⟨x, -, -, ho⟩ := jm_zret_inv h
    cases ho
  · intro X L S σ r h _
    obtain ⟨x, h1, -, ho⟩ := jm_zret_inv h
    cases ho
    exact ⟨hd, x, h1, rfl⟩
theorem jo_aret {y pc : Nat} {rt : FieldType} (hd : decode (jm_by y) pc = .ok (.areturn, 1)) (ht : jm_rt y = some rt) (hrt : (∃ n, rt = .object n) ∨ ∃ t, rt = .array t) : jm_Ok y pc jk_aret := by
  refine jm_Ok.ofR ?_ ?_ ?_ ?_ ?_
  · intro p l e R s m args below meth c H locs cells slots D dA s0 b X L S σ r ls free Qc C hf hq hl
    obtain ⟨hx, hb, hr, hml, hown, hlk, hini, hts, hK, hnw, hao, hX, hbs, hs0⟩ := C
    rcases S with _ | ⟨v | o | u, _ | ⟨w2, S0⟩⟩
    all_goals first | (cases hf; done) | skip
    cases hf
    exact W.aret (v := jm_cv s0 b (.inr (.inl o))) hx hb (by rw [hr, ht]) hrt (by cases o with | none => exact Or.inl rfl | some a => exact Or.inr ⟨_, rfl⟩) hq hl hd hlk
  · intro X L S σ o h
    rcases S with _ | ⟨v | o | u, _ | ⟨w2, S0⟩⟩ <;> cases h
  · intro X L S σ o h
    rcases S with _ | ⟨v | o | u, _ | ⟨w2, S0⟩⟩ <;> cases h
  · intro X pc L S σ pc' L' S' σ' h
    rcases S with _ | ⟨v | o | u, _ | ⟨w2, S0⟩⟩ <;> cases h
  · intro X L S σ r _ h
    rw [ht] at h
    rcases hrt with ⟨n, rfl⟩ | ⟨t, rfl⟩ <;> cases h
