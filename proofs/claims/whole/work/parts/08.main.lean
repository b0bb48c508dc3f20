/-! a run of the small machine is a run of the real one -/
theorem jm_grow {X : jm_X} : ∀ (F y pc : Nat) (L : jm_L) (S : List jm_V) (σ : jm_S) (r : Option jm_V) (σ' : jm_S), jm_run jm_fe jm_mx X F y pc L S σ = some (r, σ') → σ.1.length ≤ σ'.1.length ∧ σ.2 ≤ σ'.2 := by
  intro F
  induction F with
  | zero => intro y pc L S σ r σ' h; cases h
  | succ F ih =>
    intro y pc L S σ r σ' h
    have h : jm_go (jm_run jm_fe jm_mx X F) jm_mx y pc L σ ((jm_fe y pc).bind (fun f => f X pc L S σ)) = some (r, σ') := h
    cases hf : jm_fe y pc with
    | none => rw [hf] at h; cases h
    | some f =>
      rw [hf] at h
      have h : jm_go (jm_run jm_fe jm_mx X F) jm_mx y pc L σ (f X pc L S σ) = some (r, σ') := h
      have ok := jm_fe_ok y pc f hf
      rcases ho : f X pc L S σ with _ | (q | (v | q))
      · rw [ho] at h; cases h
      · rw [ho] at h
        have a := ok.1 _ _ _ _ _ _ _ _ _ ho
        have b := ih _ _ _ _ _ _ _ h
        exact ⟨Nat.le_trans a.1 b.1, Nat.le_trans a.2 b.2⟩
      · rw [ho] at h
        cases h
        exact ⟨Nat.le_refl _, Nat.le_refl _⟩
      · rw [ho] at h
        obtain ⟨t, a, b⟩ := Option.bind_eq_some_iff.mp h
        obtain ⟨r1, σ1⟩ := t
        have a := ih _ _ _ _ _ _ _ a
        have b := ih _ _ _ _ _ _ _ b
        exact ⟨Nat.le_trans a.1 b.1, Nat.le_trans a.2 b.2⟩
set_option maxHeartbeats 1000000 in
theorem jm_main {l : Launch} {X : jm_X} : ∀ (F y pc : Nat) (L : jm_L) (S : List jm_V) (σ : jm_S) (r : Option jm_V) (σ' : jm_S), jm_run jm_fe jm_mx X F y pc L S σ = some (r, σ') →
    ∀ (p : Program) (e : Env) (R : Room) (s : State) (m : MethodId) (args : Array Value) (below : List Frame) (meth : Method) (c : Code) (H : Heap) (locs : List Loc) (cells slots : Nat) (Q : State → Prop) (D : va_G) (dA : Nat → ClassId) (s0 b : Nat) (ls : Array Slot), jm_Cx y p s m args meth c D dA s0 b X →
    jm_lv y + 1 ≤ R.frames → 40 * (jm_lv y + 1) ≤ R.locals → cells + (σ'.1.length - σ.1.length) ≤ R.cells → slots + (σ'.2 - σ.2) ≤ R.slots → s.heap.size + cells = s0 + σ.1.length → va_P D vwCl (jm_wl s0 b dA σ.1) H → va_S (fun q => s0 ≤ q) s.heap H locs → jm_RL s0 b (jm_mx y) ls L →
    (∀ (H' : Heap) (locs' : List Loc) (ls' : Array Slot) (pc1 : Nat) (L1 : jm_L) (S1 : List jm_V) (f : jm_I), jm_fe y pc1 = some f → f X pc1 L1 S1 σ' = some (.inr (.inl r)) → va_P D vwCl (jm_wl s0 b dA σ'.1) H' → va_S (fun q => s0 ≤ q) s.heap H' locs' → W p l e R s m args below meth c H' locs' (cells + (σ'.1.length - σ.1.length)) (slots + (σ'.2 - σ.2)) Q (F0 m pc1 ls' (S1.map (jm_cv s0 b)))) →
    W p l e R s m args below meth c H locs cells slots Q (F0 m pc ls (S.map (jm_cv s0 b))) := by
  intro F
  induction F with
  | zero => intro y pc L S σ r σ' h; cases h
  | succ F ih =>
    intro y pc L S σ r σ' h p e R s m args below meth c H locs cells slots Q D dA s0 b ls C hfr hlo hcc hss h5 hP hS hL kk
    have h : jm_go (jm_run jm_fe jm_mx X F) jm_mx y pc L σ ((jm_fe y pc).bind (fun f => f X pc L S σ)) = some (r, σ') := h
    cases hf : jm_fe y pc with
    | none => rw [hf] at h; cases h
    | some f =>
      rw [hf] at h
      have h : jm_go (jm_run jm_fe jm_mx X F) jm_mx y pc L σ (f X pc L S σ) = some (r, σ') := h
      have ok := jm_fe_ok y pc f hf
      rcases ho : f X pc L S σ with _ | (q | (v | q))
      · rw [ho] at h; cases h
      · obtain ⟨pc', L', S', σ1⟩ := q
        rw [ho] at h
        have g1 : σ.1.length ≤ σ1.1.length ∧ σ.2 ≤ σ1.2 := ok.1 _ _ _ _ _ _ _ _ _ ho
        have g2 : σ1.1.length ≤ σ'.1.length ∧ σ1.2 ≤ σ'.2 := jm_grow _ _ _ _ _ _ _ _ h
        refine ok.2.1 p l e R s m args below meth c H locs cells slots Q D dA s0 b X L S σ pc' L' S' σ1 ls C ho (by omega) (by omega) (by omega) (by omega) h5 hP hS hL (fun H' locs' ls' hP' hS' hL' => ?_)
        refine ih y pc' L' S' σ1 r σ' h p e R s m args below meth c H' locs' _ _ Q D dA s0 b ls' C hfr hlo (by omega) (by omega) (by omega) hP' hS' hL' (fun H2 locs2 ls2 pc2 L2 S2 f2 k1 k2 k3 k4 => ?_)
        have z := kk H2 locs2 ls2 pc2 L2 S2 f2 k1 k2 k3 k4
        rw [show cells + (σ1.1.length - σ.1.length) + (σ'.1.length - σ1.1.length) = cells + (σ'.1.length - σ.1.length) by omega, show slots + (σ1.2 - σ.2) + (σ'.2 - σ1.2) = slots + (σ'.2 - σ.2) by omega]
        exact z
      · rw [ho] at h
        cases h
        have z := kk H locs ls pc L S f hf ho hP hS
        rw [Nat.sub_self, Nat.sub_self] at z
        exact z
      · obtain ⟨y', as, S'⟩ := q
        rw [ho] at h
        obtain ⟨t, ha, hb⟩ := Option.bind_eq_some_iff.mp h
        obtain ⟨r1, σ1⟩ := t
        have g1 : σ.1.length ≤ σ1.1.length ∧ σ.2 ≤ σ1.2 := jm_grow _ _ _ _ _ _ _ _ ha
        have g2 : σ1.1.length ≤ σ'.1.length ∧ σ1.2 ≤ σ'.2 := jm_grow _ _ _ _ _ _ _ _ hb
        have hmx := jm_mx_le y'
        have okC := ok.2.2.1 p l e R s m args below meth c H locs cells slots Q D dA s0 b X L S σ y' as S' ls { frames := jm_lv y' + 1, cells := 0 + (σ1.1.length - σ.1.length), slots := 0 + (σ1.2 - σ.2), locals := 40 * (jm_lv y' + 1) } (0 + (σ1.1.length - σ.1.length)) (0 + (σ1.2 - σ.2)) r1 σ1 C ho
        have hlv := okC.2.1
        refine okC.2.2 ?_ rfl rfl (by show jm_lv y' + 1 + 1 ≤ _; omega) (by show 8 + (jm_mx y' + 11) + 40 * (jm_lv y' + 1) ≤ _; omega) (by omega) (by omega) h5 hP hS hL (fun H' locs' hP' hS' => ?_)
        · refine Met.ofW (cc := jm_by y') (maxL := jm_mx y') (ret := jm_rt y') (jm_plain y') rfl ?_
          intro p e s m args below meth c s₁ B hml hv
          obtain ⟨rfl, hP, hsz, hK, hnw, hao, hX, hbs⟩ := hv
          have hts := atoms_spec (ws := jm_ws y') B.pre
          have C1 : jm_Cx y' p s m (as.map (jm_cv s0 b)).toArray meth c D dA s0 b X := ⟨B.exec, B.bytes, B.returns, hml, findClass_of_methodNamed B.named, B.notSynchronized, fun hn => (name_of_methodNamed B.named B.method).1.trans hn, fun w hw => hts w (List.mem_cons_of_mem _ hw), hK, hnw, hao, hX, hbs, by omega⟩
          rw [lg_entry_eq]
          refine ih y' 0 _ [] σ r1 σ1 ha p e _ s m _ below meth c s.heap [] 0 0 _ D dA s0 b _ C1 (Nat.le_refl _) (Nat.le_refl _) (Nat.le_refl _) (Nat.le_refl _) (by omega) hP va_S.rf (jm_entry as okC.1) (fun H' locs' ls' pc1 L1 S1 f1 k1 k2 k3 k4 => ?_)
          exact (jm_fe_ok y' pc1 f1 k1).2.2.2.1 p l e _ s m _ below meth c H' locs' _ _ D dA s0 b X L1 S1 σ1 r1 ls' _ _ C1 k2 (fun t ht hW => ⟨rfl, by rw [ht]; exact k3, k4.F ht⟩) k4.2.2
        · refine ih y (pc + 3) L (r1.toList ++ S') σ1 r σ' hb p e R s m args below meth c H' locs' _ _ Q D dA s0 b ls C hfr hlo (by omega) (by omega) (by omega) hP' hS' hL (fun H2 locs2 ls2 pc2 L2 S2 f2 k1 k2 k3 k4 => ?_)
          have z := kk H2 locs2 ls2 pc2 L2 S2 f2 k1 k2 k3 k4
          rw [show cells + (0 + (σ1.1.length - σ.1.length)) + (σ'.1.length - σ1.1.length) = cells + (σ'.1.length - σ.1.length) by omega, show slots + (0 + (σ1.2 - σ.2)) + (σ'.2 - σ1.2) = slots + (σ'.2 - σ.2) by omega]
          exact z
