/-! calls -/
theorem jm_nest_warm {w : Cond} {s U : State} (h : jm_isNest w = true) (hW : s.WarmedH U.vm) (hz : va_Nw w s) : va_Nw w U := by
  unfold jm_isNest at h
  split at h
  · exact va_Nw.warmF hW hz
  · exact va_Nw.warmM hW hz
  · cases h
theorem jm_nest_same {w : Cond} {u U : State} (h : jm_isNest w = true) (hv : u.vm = U.vm) (hz : va_Nw w u) : va_Nw w U := by
  unfold jm_isNest at h
  split at h
  · exact va_Nw.same rfl hv hz
  · exact va_Nw.same rfl hv hz
  · cases h
theorem jm_good {y' : Nat} (h : Cond.code (jm_nm y') (jm_by y') (jm_mx y') (jm_rt y') ∈ jm_gw) : GoodIn jm_gw (jm_ws y') := by
  intro w hw
  rcases List.mem_cons.mp hw with rfl | hw
  · exact ⟨h, jm_gw_good _ h⟩
  · exact ⟨hw, jm_gw_good _ hw⟩
theorem jm_blind {D : va_G} {dA : Nat → ClassId} {s0 b : Nat} {X : jm_X} {as : List jm_V} {σ : jm_S} : FrameBlind (jm_Pre D dA s0 b X as σ) := by
  intro a U g mk h
  obtain ⟨h0, hP, hz, hK, hn, ha, hX, hb⟩ := h
  exact ⟨h0, hP, hz, va_K.moved (u := U) (U := U.calling g mk a) (Vm.Alike.refl U.vm) hK, fun w hw => jm_nest_same (u := U) (U := U.calling g mk a) (jm_nw_nest w hw) rfl (hn w hw), fun C hC => va_AO.moved (u := U) (U := U.calling g mk a) (Vm.Alike.refl U.vm) (ha C hC), va_X.moved (u := U) (U := U.calling g mk a) (Vm.Alike.refl U.vm) hX, hb⟩
theorem jm_preU {D : va_G} {dA : Nat → ClassId} {s0 b : Nat} {X : jm_X} {as : List jm_V} {σ : jm_S} {s : State} {H : Heap} {locs : List Loc} (hP : va_P D vwCl (jm_wl s0 b dA σ.1) H) (hz : H.size = s0 + σ.1.length) (hK : va_K D vwCl (jm_tys dA) s) (hnw : ∀ w ∈ jm_nw, va_Nw w s) (hao : ∀ C ∈ jm_ao, va_AO C s) (hX : va_X b X.1 X.2 s s.heap) (hbs : b < s0) (hs0 : s0 ≤ s.heap.size) (hS : va_S (fun q => s0 ≤ q) s.heap H locs) (U : State) (hU : U.heap = H) (hW : s.WarmedH U.vm) : jm_Pre D dA s0 b X as σ (as.map (jm_cv s0 b)).toArray U := by
  refine ⟨rfl, by rw [hU]; exact hP, by rw [hU]; exact hz, va_K.moved hW.alike hK, fun w hw => jm_nest_warm (jm_nw_nest w hw) hW (hnw w hw), fun C hC => va_AO.moved hW.alike (hao C hC), ?_, hbs⟩
  rw [hU]
  exact (va_X.moved hW.alike hX).kept (hS.2.1 b (Nat.lt_of_lt_of_le hbs hs0) (Nat.not_le.mpr hbs))
theorem jm_callK {p : Program} {l : Launch} {e : Env} {R : Room} {s : State} {m : MethodId} {args : Array Value} {below : List Frame} {meth : Method} {c : Code} {H : Heap} {locs : List Loc} {cells slots mc ms : Nat} {Q : State → Prop} {pc : Nat} {ls : Array Slot} {st0 rest : List Value} {D : va_G} {dA : Nat → ClassId} {s0 b : Nat} {r : Option jm_V} {σ1 : jm_S} {a : Array Value}
    (hr : va_Run p l e R s m args below meth c H locs cells slots mc ms (F0 m pc ls st0) rest (jm_Post D dA s0 b r σ1 a) (fun q => s0 ≤ q)) (hS : va_S (fun q => s0 ≤ q) s.heap H locs)
    (kk : ∀ (H' : Heap) (locs' : List Loc), va_P D vwCl (jm_wl s0 b dA σ1.1) H' → va_S (fun q => s0 ≤ q) s.heap H' locs' → W p l e R s m args below meth c H' locs' (cells + mc) (slots + ms) Q (F0 m (pc + 3) ls ((r.map (jm_cv s0 b)).toList ++ rest))) : W p l e R s m args below meth c H locs cells slots Q (F0 m pc ls st0) := by
  intro T hT X
  obtain ⟨v, st₀, t, T', L, h0, X', hL, e1, e2, ⟨hv, hp, hz, hk⟩, st⟩ := hr T hT X
  cases hv
  rw [h0] at hz hk
  obtain ⟨t2, a1, b1⟩ := kk T'.heap (locs ++ L) (by rw [e1]; exact hp)
    ⟨Nat.le_trans hS.1 (by rw [e1]; exact hz), fun q h1 h2 => by rw [e1, hk q (Nat.lt_of_lt_of_le h1 hS.1) h2]; exact hS.2.1 q h1 h2, fun q hq => by
      rcases List.mem_append.mp hq with h | h
      · exact hS.2.2 q h
      · exact hL q h⟩ T' rfl X'
  exact ⟨t2, st t2 a1, b1⟩
theorem jm_pop_eq : ∀ (n : Nat) (S acc as S' : List jm_V), jm_pop n S acc = some (as, S') → ∃ P : List jm_V, P.length = n ∧ S = P ++ S' ∧ as = P.reverse ++ acc := by
  intro n
  induction n with
  | zero =>
    intro S acc as S' h
    cases h
    exact ⟨[], rfl, rfl, rfl⟩
  | succ n ih =>
    intro S acc as S' h
    cases S with
    | nil => cases h
    | cons v S =>
      obtain ⟨P, h1, h2, h3⟩ := ih S (v :: acc) as S' h
      exact ⟨v :: P, by rw [List.length_cons, h1], by rw [h2]; rfl, by rw [h3]; simp⟩
theorem jm_popT {n : Nat} {S as S' : List jm_V} {v : jm_V} (h : jm_pop (n + 1) S [] = some (v :: as, S')) : S = as.reverse ++ v :: S' ∧ as.length = n := by
  obtain ⟨P, h1, h2, h3⟩ := jm_pop_eq _ _ _ _ _ h
  rw [List.append_nil] at h3
  have h4 : P = as.reverse ++ [v] := by
    have := congrArg List.reverse h3
    rw [List.reverse_reverse, List.reverse_cons] at this
    exact this.symm
  subst h4
  refine ⟨by rw [h2]; simp, ?_⟩
  simp at h1
  exact h1
theorem jm_ret_map (s0 b : Nat) (r : Option jm_V) (S : List jm_V) : (r.map (jm_cv s0 b)).toList ++ S.map (jm_cv s0 b) = (r.toList ++ S).map (jm_cv s0 b) := by
  cases r <;> simp
theorem jm_callV_inv {y' n ci : Nat} {X : jm_X} {pc : Nat} {L : jm_L} {S : List jm_V} {σ : jm_S} {o : jm_O} (h : jk_callV y' n ci X pc L S σ = some o) : ∃ a as S' fs, S = as.reverse ++ .inr (.inl (some a)) :: S' ∧ as.length = n ∧ σ.1[a]? = some (.inl (ci, fs)) ∧ S'.length ≤ 8 ∧ o = .inr (.inr (y', .inr (.inl (some a)) :: as, S')) := by
  unfold jk_callV at h
  split at h
  · rename_i a as S' hp
    split at h
    · rename_i cj fs hh
      split at h
      · rename_i hc
        obtain ⟨rfl, h8⟩ := hc
        cases h
        obtain ⟨e1, e2⟩ := jm_popT hp
        exact ⟨a, as, S', fs, e1, e2, hh, h8, rfl⟩
      · cases h
    · cases h
  · cases h
theorem jm_callI_inv {y' n : Nat} {X : jm_X} {pc : Nat} {L : jm_L} {S : List jm_V} {σ : jm_S} {o : jm_O} (h : jk_callI y' n X pc L S σ = some o) : ∃ a as S', S = as.reverse ++ .inr (.inl (some a)) :: S' ∧ as.length = n ∧ S'.length ≤ 8 ∧ o = .inr (.inr (y', .inr (.inl (some a)) :: as, S')) := by
  unfold jk_callI at h
  split at h
  · rename_i a as S' hp
    split at h
    · rename_i h8
      cases h
      obtain ⟨e1, e2⟩ := jm_popT hp
      exact ⟨a, as, S', e1, e2, h8, rfl⟩
    · cases h
  · cases h
theorem jm_callS_inv {y' n : Nat} {X : jm_X} {pc : Nat} {L : jm_L} {S : List jm_V} {σ : jm_S} {o : jm_O} (h : jk_callS y' n X pc L S σ = some o) : ∃ as S', S = as.reverse ++ S' ∧ as.length = n ∧ S'.length ≤ 8 ∧ o = .inr (.inr (y', as, S')) := by
  unfold jk_callS at h
  split at h
  · rename_i as S' hp
    split at h
    · rename_i h8
      cases h
      obtain ⟨P, h1, h2, h3⟩ := jm_pop_eq _ _ _ _ _ hp
      rw [List.append_nil] at h3
      exact ⟨as, S', by rw [h3, List.reverse_reverse]; exact h2, by rw [h3, List.length_reverse]; exact h1, h8, rfl⟩
    · cases h
  · cases h
abbrev jm_callee (y' n : Nat) : Prop := Cond.initialized (jm_nm y').cls ∈ jm_gw ∧ Cond.code (jm_nm y') (jm_by y') (jm_mx y') (jm_rt y') ∈ jm_gw ∧ (jm_nm y').cls ≠ "java/lang/invoke/MethodHandle" ∧ (jm_nm y').cls ≠ "java/lang/invoke/VarHandle" ∧ (parseMethodDescriptor (jm_nm y').desc).map (fun d => d.parameters.length) = some n
theorem jo_callV {y pc y' n ci idx : Nat} {q : vw_C} (hd : decode (jm_by y) pc = .ok (.invokevirtual idx, 3)) (hc : vwCl[ci]? = some q) (hl : Cond.methodLink (jm_nm y).cls idx (jm_nm y') ∈ jm_gw) (hi : Cond.instanceMethod (jm_nm y') ∈ jm_gw) (hsel : Cond.selects q.1 (jm_nm y') (jm_nm y') ∈ jm_gw) (he : jm_callee y' n) (hn : n + 1 ≤ jm_mx y') (hlv : jm_lv y' < jm_lv y) : jm_Ok y pc (jk_callV y' n ci) := by
  refine jm_Ok.ofC ?_ ?_ ?_ ?_
  · intro p l e R s m args below meth c H locs cells slots Q D dA s0 b X L S σ y1 as1 S1 ls rm mc ms r σ1 C hf
    obtain ⟨hx, hb, hr, hml, hown, hlk, hini, hts, hK, hnw, hao, hX, hbs, hs0⟩ := C
    obtain ⟨a, as, S', fs, rfl, e3, hh, h8, ho⟩ := jm_callV_inv hf
    cases ho
    refine ⟨by rw [List.length_cons, e3]; exact hn, hlv, fun hM hrc hrs hfr hlo hcc hss h5 hP hS hL kk => ?_⟩
    refine jm_sz (fun hz => ?_)
    have hsize : H.size = s0 + σ.1.length := by
      have := jm_len hP hS hs0
      omega
    have hpre := fun (U : State) (hU : U.heap = H) (hW : s.WarmedH U.vm) => jm_preU (as := .inr (.inl (some a)) :: as) hP hsize hK hnw hao hX hbs hs0 hS U hU hW
    refine jm_callK (va_runV (As := as.map (jm_cv s0 b)) (rest := S1.map (jm_cv s0 b)) (b := s0 + a) (C := q.1) (n := n) ⟨hx, hb, hml, hown, hts⟩ hM ⟨callB_of n hts (jm_good he.2.1) rfl hrc hrs (hts _ he.1) (hts _ hl) he.2.2 ⟨hfr, hlo⟩, hts _ hi, hts _ hsel⟩ ⟨jm_blind, va_recv hK hP hc (jm_wl_at hh), hpre⟩ rfl (by rw [List.length_map, e3]) hL.2.1 ?_ (lv_room (by rw [jm_catsum]; exact h8)) hd ⟨hcc, hss⟩) hS (fun H' locs' hP' hS' => ?_)
    · show (as.reverse ++ (Sum.inr (Sum.inl (some a)) : jm_V) :: S1).map (jm_cv s0 b) = _
      rw [List.map_append, List.map_reverse]; rfl
    · rw [jm_ret_map]
      exact kk H' locs' hP' hS'
  · intro X L S σ o h
    obtain ⟨a, as, S0, fs, -, -, -, -, ho⟩ := jm_callV_inv h
    cases ho
  · intro X L S σ o h
    obtain ⟨a, as, S0, fs, -, -, -, -, ho⟩ := jm_callV_inv h
    cases ho
  · intro X pc L S σ pc' L' S' σ' h
    obtain ⟨a, as, S0, fs, -, -, -, -, ho⟩ := jm_callV_inv h
    cases ho
theorem jo_callVN {y pc y' n ci idx : Nat} {q : vw_C} {host : String} (hd : decode (jm_by y) pc = .ok (.invokevirtual idx, 3)) (hc : vwCl[ci]? = some q) (hl : Cond.methodLinkNest (jm_nm y).cls idx (jm_nm y') host ∈ jm_nw) (hi : Cond.instanceMethod (jm_nm y') ∈ jm_gw) (hsel : Cond.selects q.1 (jm_nm y') (jm_nm y') ∈ jm_gw) (he : jm_callee y' n) (hn : n + 1 ≤ jm_mx y') (hlv : jm_lv y' < jm_lv y) : jm_Ok y pc (jk_callV y' n ci) := by
  refine jm_Ok.ofC ?_ ?_ ?_ ?_
  · intro p l e R s m args below meth c H locs cells slots Q D dA s0 b X L S σ y1 as1 S1 ls rm mc ms r σ1 C hf
    obtain ⟨hx, hb, hr, hml, hown, hlk, hini, hts, hK, hnw, hao, hX, hbs, hs0⟩ := C
    obtain ⟨a, as, S', fs, rfl, e3, hh, h8, ho⟩ := jm_callV_inv hf
    cases ho
    refine ⟨by rw [List.length_cons, e3]; exact hn, hlv, fun hM hrc hrs hfr hlo hcc hss h5 hP hS hL kk => ?_⟩
    refine jm_sz (fun hz => ?_)
    have hsize : H.size = s0 + σ.1.length := by
      have := jm_len hP hS hs0
      omega
    have hpre := fun (U : State) (hU : U.heap = H) (hW : s.WarmedH U.vm) => jm_preU (as := .inr (.inl (some a)) :: as) hP hsize hK hnw hao hX hbs hs0 hS U hU hW
    refine jm_callK (va_runVN (As := as.map (jm_cv s0 b)) (rest := S1.map (jm_cv s0 b)) (b := s0 + a) (C := q.1) (n := n) ⟨hx, hb, hml, hown, hts⟩ hM ⟨va_cnB n hts (jm_good he.2.1) rfl hrc hrs (hnw _ hl) (hts _ he.1) he.2.2 ⟨hfr, hlo⟩, hts _ hi, hts _ hsel⟩ ⟨jm_blind, va_recv hK hP hc (jm_wl_at hh), hpre⟩ rfl (by rw [List.length_map, e3]) hL.2.1 ?_ (lv_room (by rw [jm_catsum]; exact h8)) hd ⟨hcc, hss⟩) hS (fun H' locs' hP' hS' => ?_)
    · show (as.reverse ++ (Sum.inr (Sum.inl (some a)) : jm_V) :: S1).map (jm_cv s0 b) = _
      rw [List.map_append, List.map_reverse]; rfl
    · rw [jm_ret_map]
      exact kk H' locs' hP' hS'
  · intro X L S σ o h
    obtain ⟨a, as, S0, fs, -, -, -, -, ho⟩ := jm_callV_inv h
    cases ho
  · intro X L S σ o h
    obtain ⟨a, as, S0, fs, -, -, -, -, ho⟩ := jm_callV_inv h
    cases ho
  · intro X pc L S σ pc' L' S' σ' h
    obtain ⟨a, as, S0, fs, -, -, -, -, ho⟩ := jm_callV_inv h
    cases ho
theorem jo_callI {y pc y' n idx : Nat} (hd : decode (jm_by y) pc = .ok (.invokespecial idx, 3)) (hl : Cond.methodLink (jm_nm y).cls idx (jm_nm y') ∈ jm_gw) (hi : Cond.instanceMethod (jm_nm y') ∈ jm_gw) (hy1 : (jm_nm y').name = "<init>") (hrt : jm_rt y' = none) (he : jm_callee y' n) (hn : n + 1 ≤ jm_mx y') (hlv : jm_lv y' < jm_lv y) : jm_Ok y pc (jk_callI y' n) := by
  refine jm_Ok.ofC ?_ ?_ ?_ ?_
  · intro p l e R s m args below meth c H locs cells slots Q D dA s0 b X L S σ y1 as1 S1 ls rm mc ms r σ1 C hf
    obtain ⟨hx, hb, hr, hml, hown, hlk, hini, hts, hK, hnw, hao, hX, hbs, hs0⟩ := C
    obtain ⟨a, as, S', rfl, e3, h8, ho⟩ := jm_callI_inv hf
    cases ho
    refine ⟨by rw [List.length_cons, e3]; exact hn, hlv, fun hM hrc hrs hfr hlo hcc hss h5 hP hS hL kk => ?_⟩
    refine jm_sz (fun hz => ?_)
    have hsize : H.size = s0 + σ.1.length := by
      have := jm_len hP hS hs0
      omega
    have hpre := fun (U : State) (hU : U.heap = H) (hW : s.WarmedH U.vm) => jm_preU (as := .inr (.inl (some a)) :: as) hP hsize hK hnw hao hX hbs hs0 hS U hU hW
    refine jm_callK (va_runI (As := as.map (jm_cv s0 b)) (rest := S1.map (jm_cv s0 b)) (b := s0 + a) (n := n) ⟨hx, hb, hml, hown, hts⟩ hM ⟨callB_of n hts (jm_good he.2.1) (by rw [← hrt]; rfl) hrc hrs (hts _ he.1) (hts _ hl) he.2.2 ⟨hfr, hlo⟩, hy1, hts _ hi⟩ ⟨jm_blind, hpre⟩ rfl (by rw [List.length_map, e3]) hL.2.1 ?_ (lv_room (by rw [jm_catsum]; exact h8)) hd ⟨hcc, hss⟩) hS (fun H' locs' hP' hS' => ?_)
    · show (as.reverse ++ (Sum.inr (Sum.inl (some a)) : jm_V) :: S1).map (jm_cv s0 b) = _
      rw [List.map_append, List.map_reverse]; rfl
    · rw [jm_ret_map]
      exact kk H' locs' hP' hS'
  · intro X L S σ o h
    obtain ⟨a, as, S0, -, -, -, ho⟩ := jm_callI_inv h
    cases ho
  · intro X L S σ o h
    obtain ⟨a, as, S0, -, -, -, ho⟩ := jm_callI_inv h
    cases ho
  · intro X pc L S σ pc' L' S' σ' h
    obtain ⟨a, as, S0, -, -, -, ho⟩ := jm_callI_inv h
    cases ho
theorem jo_callS {y pc y' n idx : Nat} (hd : decode (jm_by y) pc = .ok (.invokestatic idx, 3)) (hl : Cond.methodLink (jm_nm y).cls idx (jm_nm y') ∈ jm_gw) (hi : Cond.static (jm_nm y') ∈ jm_gw) (he : jm_callee y' n) (hn : n ≤ jm_mx y') (hlv : jm_lv y' < jm_lv y) : jm_Ok y pc (jk_callS y' n) := by
  refine jm_Ok.ofC ?_ ?_ ?_ ?_
  · intro p l e R s m args below meth c H locs cells slots Q D dA s0 b X L S σ y1 as1 S1 ls rm mc ms r σ1 C hf
    obtain ⟨hx, hb, hr, hml, hown, hlk, hini, hts, hK, hnw, hao, hX, hbs, hs0⟩ := C
    obtain ⟨as, S', rfl, e3, h8, ho⟩ := jm_callS_inv hf
    cases ho
    refine ⟨by rw [e3]; exact hn, hlv, fun hM hrc hrs hfr hlo hcc hss h5 hP hS hL kk => ?_⟩
    refine jm_sz (fun hz => ?_)
    have hsize : H.size = s0 + σ.1.length := by
      have := jm_len hP hS hs0
      omega
    have hpre := fun (U : State) (hU : U.heap = H) (hW : s.WarmedH U.vm) => jm_preU (as := as1) hP hsize hK hnw hao hX hbs hs0 hS U hU hW
    refine jm_callK (va_runS (As := as1.map (jm_cv s0 b)) (rest := S1.map (jm_cv s0 b)) (n := n) ⟨hx, hb, hml, hown, hts⟩ hM ⟨callB_of n hts (jm_good he.2.1) rfl hrc hrs (hts _ he.1) (hts _ hl) he.2.2 ⟨hfr, hlo⟩, hts _ hi⟩ ⟨jm_blind, hpre⟩ rfl (by rw [List.length_map, e3]) hL.2.1 ?_ (lv_room (by rw [jm_catsum]; exact h8)) hd ⟨hcc, hss⟩) hS (fun H' locs' hP' hS' => ?_)
    · show (as1.reverse ++ S1).map (jm_cv s0 b) = _
      rw [List.map_append, List.map_reverse]
    · rw [jm_ret_map]
      exact kk H' locs' hP' hS'
  · intro X L S σ o h
    obtain ⟨as, S0, -, -, -, ho⟩ := jm_callS_inv h
    cases ho
  · intro X L S σ o h
    obtain ⟨as, S0, -, -, -, ho⟩ := jm_callS_inv h
    cases ho
  · intro X pc L S σ pc' L' S' σ' h
    obtain ⟨as, S0, -, -, -, ho⟩ := jm_callS_inv h
    cases ho
/-! switches -/
def jm_tabOk (pc : Nat) : Int → List Int → List (Int32 × Nat) → Bool
  | _, [], [] => true
  | lo, o :: os, q :: r => decide (q.1.toInt = lo) && decide ((pc : Int) + o = (q.2 : Int)) && jm_tabOk pc (lo + 1) os r
  | _, _, _ => false
theorem jm_tabOut {pc df : Nat} {x : Int32} : ∀ (cs : List (Int32 × Nat)) (os : List Int) (lo : Int), jm_tabOk pc lo os cs = true → (x.toInt < lo ∨ lo + cs.length - 1 < x.toInt) → jm_sw cs df x = df := by
  intro cs
  induction cs with
  | nil => intro os lo _ _; rfl
  | cons q r ih =>
    intro os lo h hx
    rcases os with _ | ⟨o, os⟩
    · simp [jm_tabOk] at h
    · simp only [jm_tabOk, Bool.and_eq_true, decide_eq_true_eq] at h
      obtain ⟨⟨h1, h2⟩, h3⟩ := h
      simp only [List.length_cons, Int.natCast_add, Int.natCast_one] at hx
      unfold jm_sw
      rw [if_neg (fun z => by rw [z] at hx; omega)]
      exact ih os (lo + 1) h3 (by omega)
theorem jm_tabIn {pc df : Nat} {x : Int32} : ∀ (cs : List (Int32 × Nat)) (os : List Int) (lo : Int), jm_tabOk pc lo os cs = true → ¬ x.toInt < lo → ¬ lo + cs.length - 1 < x.toInt → ∃ off, os[(x.toInt - lo).toNat]? = some off ∧ (pc : Int) + off = (jm_sw cs df x : Int) := by
  intro cs
  induction cs with
  | nil => intro os lo _ h1 h2; simp at h2; omega
  | cons q r ih =>
    intro os lo h hx1 hx2
    rcases os with _ | ⟨o, os⟩
    · simp [jm_tabOk] at h
    · simp only [jm_tabOk, Bool.and_eq_true, decide_eq_true_eq] at h
      obtain ⟨⟨h1, h2⟩, h3⟩ := h
      simp only [List.length_cons, Int.natCast_add, Int.natCast_one] at hx2
      unfold jm_sw
      by_cases hq : x = q.1
      · rw [if_pos hq, hq, h1, Int.sub_self]
        exact ⟨o, rfl, h2⟩
      · rw [if_neg hq]
        have hne : ¬ x.toInt = lo := fun z => hq (Int32.toInt_inj.mp (by rw [h1]; exact z))
        obtain ⟨off, e1, e2⟩ := ih os (lo + 1) h3 (by omega) (by omega)
        refine ⟨off, ?_, e2⟩
        rw [show (x.toInt - lo).toNat = (x.toInt - (lo + 1)).toNat + 1 by omega, List.getElem?_cons_succ]
        exact e1
theorem jo_table {y pc df len : Nat} {dflt lo hi : Int} {offs : Array Int} {cs : List (Int32 × Nat)} (hd : decode (jm_by y) pc = .ok (.tableswitch dflt lo hi offs, len)) (hdf : (pc : Int) + dflt = (df : Int)) (hck : jm_tabOk pc lo offs.toList cs = true) (hhi : hi = lo + cs.length - 1) : jm_Ok y pc (jk_sw cs df) := by
  refine jm_pure (by intro X L S σ o h; simp only [jk_sw] at h; (repeat' (split at h)) <;> simp at h) (by intro X pc L S σ pc' L' S' σ' h; simp only [jk_sw] at h; (repeat' (split at h)) <;> first | (simp at h; done) | (simp at h; exact h.2.2.2.symm)) ?_
  intro p l e R s m args below meth c H locs cells slots Q D dA s0 b X L S σ pc' L' S' ls C hf h1 h2 h3 h4 hP hS hL kk
  obtain ⟨hx, hb, hr, hml, hown, hlk, hini, hts, hK, hnw, hao, hX, hbs, hs0⟩ := C
  rcases S with _ | ⟨x | r1, S0⟩
  all_goals first | (cases hf; done) | skip
  cases hf
  by_cases ho : x.toInt < lo ∨ hi < x.toInt
  · have e := jm_tabOut (df := df) cs offs.toList lo hck (by rw [← hhi]; exact ho)
    rw [e] at kk
    exact lv_tableOut hx hb hd ho hdf (kk ls hL)
  · have o1 : ¬ x.toInt < lo := fun z => ho (Or.inl z)
    have o2 : ¬ hi < x.toInt := fun z => ho (Or.inr z)
    obtain ⟨off, e1, e2⟩ := jm_tabIn (df := df) cs offs.toList lo hck o1 (by rw [← hhi]; exact o2)
    exact lv_tableIn hx hb hd o1 o2 (by rw [← Array.getElem?_toList]; exact e1) e2 (kk ls hL)
