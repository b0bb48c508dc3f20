/-! THE CLAIM OUT OF ONE WALK OF THE LAW'S BODY. Your part is whole_start (and what it stands on); all else here is the same for every law, but numbers. -/
def R_law : String := "StackRunLaw"
def lw_P (b : Addr) (xs : List Int32) (args : Array Value) (s : State) : Prop := args = #[.ref b] ∧ s.IntsAt b xs ∧ xs.length ≤ 2560 ∧ (Jvm.Cond.and given_1 narrow_1).before args s = true
def lw_Q (_ : Array Value) (s : State) (o : Outcome) (t : State) : Prop := o = .returned (some (.int 1)) ∧ Framed s o t [] 600000 7302250
def lw_Z (below : List Frame) (a : Array Value) (s : State) : State → Prop := fun t => ∃ o, t.status = .running ∧ Ended t below o ∧ lw_Q a s o t
/-- the law's own end, with 1 on the stack, nothing written that was there before, its room as the claim has it -/
theorem lw_ret {p : Program} {l : Launch} {e : Env} {s : State} {m : MethodId} {below : List Frame} {meth : Method} {c : Code} {b : Nat} (hx : p.tables.exec = Jvm.exec) (hb : c.code = code) (hr : meth.sig.returnType = ret) (hlocks : meth.locks = false) {pc : Nat} {H : Heap} {ls : Array Slot} (hdg : decode code pc = .ok (.ireturn, 1)) : W p l e room_1 s m #[Value.ref b] below meth c H [] 600000 7302250 (lw_Z below #[Value.ref b] s) (F0 m pc ls [.int 1]) := by
  intro T hT X
  obtain ⟨fs, hret, hrun, hended, hW, hframe⟩ := X.leave (v := some (.int 1)) (hlocks := hlocks) (fun h => by rw [hr] at h; cases h)
  have hmeth' : T.vm.method? m = some meth := X.method'
  refine ⟨T.setFrames fs, ?_, .returned (some (.int 1)), hrun, hended, rfl, ⟨_, rfl⟩, hW, hframe⟩
  jvm_step X.here [X.here.top, hx, hb, hdg, hmeth', hr, ret, narrow_b1]
  (try refine ⟨rfl, ?_⟩); (try refine ⟨rfl, ?_⟩)
  first | (intro acts; rw [hret _ acts rfl rfl rfl]) | rw [hret _ _ rfl rfl rfl]
  exact Steps.refl _
/-- what holds at the law's entry: the machine, the code, the tables' words (any of lw_tbl by 'hts w (by decide +kernel)'), the script of L ints xs at the cell b, what the Statement gives of the start (any of its parts by flat_of_before) -/
def lw_At (p : Program) (s : State) (m : MethodId) (meth : Method) (c : Code) (b L : Nat) (xs : Nat → Int32) : Prop :=
  p.tables.exec = Jvm.exec ∧ c.code = code ∧ meth.sig.returnType = ret ∧ c.maxLocals = 4 ∧ s.vm.findClass R_law = some m.cls ∧ (∀ w ∈ lw_tbl, w.before #[Value.ref b] s = true) ∧ va_X b L xs s s.heap ∧ b < s.heap.size ∧ meth.locks = false ∧ (Jvm.Cond.and given_1 narrow_1).before #[Value.ref b] s = true
/-! the law, out of its run in the small machine -/
theorem jm_inTbl {w : Cond} (h : w ∈ jm_gw) : w ∈ lw_tbl := (List.mem_filter.mp h).1
theorem jm_arrK {s : State} {args : Array Value} (hts : ∀ w ∈ lw_tbl, w.before args s = true) : ∃ dA : Nat → ClassId, ∀ (k : Nat) (q : ClassId × FieldType), (jm_tys dA)[k]? = some q → ArrOfT s q.1 q.2 ∧ va_RA s q.1 q.2 := by
  have key : ∀ t : Nat, ∃ cA : ClassId, ∀ ty, jm_at[t]? = some ty → ArrOfT s cA ty ∧ va_RA s cA ty := by
    intro t
    match t with
    | 0 =>
      obtain ⟨c, k, comp, h1, h2, h3⟩ := Cond.arrayClass_spec (hts (.arrayClass .int) (by decide +kernel))
      exact ⟨c, fun ty h => by cases h; exact ⟨fun n z => ⟨fun k h => (by cases h), k, h2, comp, h3⟩, h1⟩⟩
    | 1 =>
      obtain ⟨c, k, comp, h1, h2, h3⟩ := Cond.arrayClass_spec (hts (.arrayClass .boolean) (by decide +kernel))
      exact ⟨c, fun ty h => by cases h; exact ⟨fun n z => ⟨fun k h => (by cases h), k, h2, comp, h3⟩, h1⟩⟩
    | 2 =>
      obtain ⟨comp, c, k, h1, h2, h3, h4, h5⟩ := Cond.arrayOver_spec (hts (.arrayOver (.object "StackRun$Function")) (by decide +kernel))
      exact ⟨c, fun ty h => by cases h; exact ⟨fun n z => ⟨fun k h => (by cases h), k, h3, comp, h4⟩, k, comp, h3, h4, h1, h5⟩⟩
    | 3 =>
      obtain ⟨comp, c, k, h1, h2, h3, h4, h5⟩ := Cond.arrayOver_spec (hts (.arrayOver (.object "StackRun$Frame")) (by decide +kernel))
      exact ⟨c, fun ty h => by cases h; exact ⟨fun n z => ⟨fun k h => (by cases h), k, h3, comp, h4⟩, k, comp, h3, h4, h1, h5⟩⟩
    | t + 4 => exact ⟨(0 : Nat), fun ty h => by simp [jm_at] at h⟩
  refine ⟨fun t => Classical.choose (key t), fun k q hq => ?_⟩
  rw [jm_tysF_get, Nat.zero_add] at hq
  obtain ⟨ty, h1, h2⟩ := Option.map_eq_some_iff.mp hq
  subst h2
  exact Classical.choose_spec (key k) ty h1
theorem jm_clsK {s : State} {args : Array Value} (hts : ∀ w ∈ lw_tbl, w.before args s = true) : ∃ D : va_G, ∀ (k : Nat) (q : vw_C), vwCl[k]? = some q → u_Kn s q.1 q.2.1 q.2.2 (D.1 k) (D.2 k) := by
  have key : ∀ k : Nat, ∃ (cC : ClassId) (iS : Nat → Nat), ∀ q, vwCl[k]? = some q → u_Kn s q.1 q.2.1 q.2.2 cC iS := by
    intro k
    match k with
    | 0 =>
      obtain ⟨c, i, h⟩ := u_known (C := "StackRun") (T := jc_T0) (N := 3) (n := 3) hts (fun w hw => jm_inTbl (jc_in0 w hw)) (hts (.instantiable "StackRun" 3) (by decide +kernel))
      exact ⟨c, i, fun q hq => by cases hq; exact h⟩
    | 1 =>
      obtain ⟨c, i, h⟩ := u_known (C := "StackRun$Program") (T := jc_T1) (N := 2) (n := 2) hts (fun w hw => jm_inTbl (jc_in1 w hw)) (hts (.instantiable "StackRun$Program" 2) (by decide +kernel))
      exact ⟨c, i, fun q hq => by cases hq; exact h⟩
    | 2 =>
      obtain ⟨c, i, h⟩ := u_known (C := "StackRun$Function") (T := jc_T2) (N := 12) (n := 12) hts (fun w hw => jm_inTbl (jc_in2 w hw)) (hts (.instantiable "StackRun$Function" 12) (by decide +kernel))
      exact ⟨c, i, fun q hq => by cases hq; exact h⟩
    | 3 =>
      obtain ⟨c, i, h⟩ := u_known (C := "StackRun$Answers") (T := jc_T3) (N := 2) (n := 2) hts (fun w hw => jm_inTbl (jc_in3 w hw)) (hts (.instantiable "StackRun$Answers" 2) (by decide +kernel))
      exact ⟨c, i, fun q hq => by cases hq; exact h⟩
    | 4 =>
      obtain ⟨c, i, h⟩ := u_known (C := "StackRun$Run") (T := jc_T4) (N := 12) (n := 12) hts (fun w hw => jm_inTbl (jc_in4 w hw)) (hts (.instantiable "StackRun$Run" 12) (by decide +kernel))
      exact ⟨c, i, fun q hq => by cases hq; exact h⟩
    | 5 =>
      obtain ⟨c, i, h⟩ := u_known (C := "StackRun$Frame") (T := jc_T5) (N := 4) (n := 4) hts (fun w hw => jm_inTbl (jc_in5 w hw)) (hts (.instantiable "StackRun$Frame" 4) (by decide +kernel))
      exact ⟨c, i, fun q hq => by cases hq; exact h⟩
    | 6 =>
      obtain ⟨c, i, h⟩ := u_known (C := "StackRun$Cells") (T := jc_T6) (N := 3) (n := 3) hts (fun w hw => jm_inTbl (jc_in6 w hw)) (hts (.instantiable "StackRun$Cells" 3) (by decide +kernel))
      exact ⟨c, i, fun q hq => by cases hq; exact h⟩
    | 7 =>
      obtain ⟨c, i, h⟩ := u_known (C := "StackRun$Rows") (T := jc_T7) (N := 5) (n := 5) hts (fun w hw => jm_inTbl (jc_in7 w hw)) (hts (.instantiable "StackRun$Rows" 5) (by decide +kernel))
      exact ⟨c, i, fun q hq => by cases hq; exact h⟩
    | 8 =>
      obtain ⟨c, i, h⟩ := u_known (C := "StackRun$Outside") (T := jc_T8) (N := 2) (n := 2) hts (fun w hw => jm_inTbl (jc_in8 w hw)) (hts (.instantiable "StackRun$Outside" 2) (by decide +kernel))
      exact ⟨c, i, fun q hq => by cases hq; exact h⟩
    | 9 =>
      obtain ⟨c, i, h⟩ := u_known (C := "StackRunModel") (T := jc_T9) (N := 36) (n := 36) hts (fun w hw => jm_inTbl (jc_in9 w hw)) (hts (.instantiable "StackRunModel" 36) (by decide +kernel))
      exact ⟨c, i, fun q hq => by cases hq; exact h⟩
    | k + 10 => exact ⟨(0 : Nat), fun _ => 0, fun q hq => by simp [vwCl] at hq⟩
  exact ⟨(fun k => Classical.choose (key k), fun k => Classical.choose (Classical.choose_spec (key k))), fun k q hq => Classical.choose_spec (Classical.choose_spec (key k)) q hq⟩
theorem jm_law {p : Program} {e : Env} {s : State} {m : MethodId} {below : List Frame} {meth : Method} {c : Code} (l : Launch) {b L : Nat} {xs : Nat → Int32} (C0 : lw_At p s m meth c b L xs) {σ' : jm_S} (hrun : jm_lim jm_fe jm_mx (L, xs) 0 0 (jm_loc (jm_mx 0) [.inr (.inr ())]) [] ([], 0) = some (some (.inl 1), σ')) (hc : σ'.1.length ≤ room_1.cells) (hs : σ'.2 ≤ room_1.slots) : W p l e room_1 s m #[Value.ref b] below meth c s.heap [] 0 0 (lw_Z below #[Value.ref b] s) (entryFrame m ([Value.ref b] : List Value).toArray (jm_mx 0)) := by
  obtain ⟨hx, hb, hr, hml, hown, hts, hX, hbl, hlocks, hgv⟩ := C0
  obtain ⟨F, hF⟩ := jm_of_lim hrun
  obtain ⟨D, hD⟩ := jm_clsK hts
  obtain ⟨dA, hA⟩ := jm_arrK hts
  have hnw : ∀ w ∈ jm_nw, va_Nw w s := by
    intro w hw
    have h1 := (List.mem_filter.mp hw)
    have h2 := hts w h1.1
    have h3 := h1.2
    unfold jm_isNest at h3
    split at h3
    · exact va_Nw.of rfl h2
    · exact va_Nw.of rfl h2
    · cases h3
  have hao : ∀ C ∈ jm_ao, va_AO C s := by
    intro C hC
    rcases List.mem_cons.mp hC with rfl | hC
    · exact va_AO.of (hts _ (by decide +kernel))
    · rcases List.mem_cons.mp hC with rfl | hC
      · exact va_AO.of (hts _ (by decide +kernel))
      · exact absurd hC List.not_mem_nil
  have C : jm_Cx 0 p s m #[Value.ref b] meth c D dA s.heap.size b (L, xs) := ⟨hx, hb, hr, hml, hown, hlocks, fun h => absurd h (by decide), fun w hw => hts w (jm_inTbl hw), ⟨hD, hA⟩, hnw, hao, hX, hbl, Nat.le_refl _⟩
  rw [lg_entry_eq]
  have hl := jm_entry (s0 := s.heap.size) (b := b) (n := jm_mx 0) [.inr (.inr ())] (by decide)
  refine jm_main F 0 0 _ [] ([], 0) _ σ' hF p e room_1 s m _ below meth c s.heap [] 0 0 _ D dA s.heap.size b _ C (by decide) (by decide) (by simpa using hc) (by simpa using hs) rfl (fun k q h => by simp [jm_wlF] at h) va_S.rf hl (fun H' locs' ls' pc1 L1 S1 f k1 k2 k3 k4 => ?_)
  obtain ⟨hdec, v, hS1, hv⟩ := (jm_fe_ok 0 pc1 f k1).2.2.2.2 _ _ _ _ _ k2 rfl
  cases hv
  subst hS1
  refine va_forget (fun q hq => k4.2.2 q hq) ?_
  refine W.widen (k := room_1.cells) (n := room_1.slots) (by simpa using hc) (by simpa using hs) ?_
  exact lw_ret hx hb hr hlocks hdec
