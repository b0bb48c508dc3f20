/-! the reference's own arithmetic, which it does in longs -/
def jm_wk (op a b : Int32) : Int32 := if op = 6 then a + b else if op = 7 then a - b else if op = 8 then a * b else if op = 9 then a / b else if op = 10 then a - a / b * b else if op = 11 then a &&& b else if op = 12 then a ||| b else if op = 13 then a ^^^ b else if op = 14 then a <<< (b &&& 31) else if op = 15 then a >>> (b &&& 31) else if op = 16 then (if a < b then 1 else 0) else (if a = b then 1 else 0)
def jk_work : jm_I := fun _ pc L S σ => match S with
  | .inl b :: .inl a :: .inl op :: S' => if ((op = 9 ∨ op = 10) ∧ b = 0) ∨ 8 < S'.length then none else jm_nx (pc + 3) L (.inl (jm_wk op a b) :: S') σ
  | _ => none
abbrev jm_wkB : ByteArray := prog_11_method_26_code
abbrev jm_wkN : MethodName := ⟨"StackRunModel", "worked", "(III)I"⟩
theorem jm_wdiv (a b : Int32) : (a.toInt64 / b.toInt64).toInt32 = a / b := by
  apply Int32.toInt_inj.mp
  rw [Int64.toInt_toInt32, Int64.toInt_div, Int32.toInt_div, Int32.toInt_toInt64, Int32.toInt_toInt64]
  exact Int.bmod_bmod_of_dvd (by decide)
theorem jm_wshc : ∀ j : Fin 32, ((nI j.val).toInt64 &&& 63).toBitVec.smod 64 = BitVec.ofNat 64 j.val := by decide +kernel
theorem jm_wshd : ∀ j : Fin 32, (nI j.val &&& 31).toBitVec.smod 32 = BitVec.ofNat 32 j.val := by decide +kernel
theorem jm_wshe : ∀ j : Fin 32, (nI j.val).toBitVec.smod 32 = BitVec.ofNat 32 j.val := by decide +kernel
theorem jm_wshl (a b : Int32) : (a.toInt64 <<< ((b &&& 31).toInt64 &&& 63)).toInt32 = a <<< (b &&& 31) := by
  obtain ⟨j, hj, e⟩ := pk_andE b (m := 31) 5 (by decide)
  rw [e]
  apply Int32.toBitVec_inj.mp
  have h1 := jm_wshc ⟨j, hj⟩
  have h2 := jm_wshe ⟨j, hj⟩
  simp only [Int64.toBitVec_toInt32, Int64.toBitVec_shiftLeft, Int32.toBitVec_shiftLeft, Int32.toBitVec_toInt64] at *
  rw [h1, h2]
  have n1 : (BitVec.ofNat 64 j).toNat = j := by simp; omega
  have n2 : (BitVec.ofNat 32 j).toNat = j := by simp; omega
  rw [BitVec.shiftLeft_eq', BitVec.shiftLeft_eq', n1, n2]
  apply BitVec.eq_of_getLsbD_eq
  intro i hi
  have q1 : i < 64 := by omega
  have q2 : i - j < 64 := by omega
  have q3 : i - j < 32 := by omega
  rw [BitVec.getLsbD_signExtend, BitVec.getLsbD_shiftLeft, BitVec.getLsbD_shiftLeft, BitVec.getLsbD_signExtend]
  simp only [hi, q1, q2, q3, decide_true, Bool.true_and, if_true]
theorem jm_wshr (a b : Int32) : (a.toInt64 >>> ((b &&& 31).toInt64 &&& 63)).toInt32 = a >>> (b &&& 31) := by
  obtain ⟨j, hj, e⟩ := pk_andE b (m := 31) 5 (by decide)
  rw [e]
  apply Int32.toBitVec_inj.mp
  have h1 := jm_wshc ⟨j, hj⟩
  have h2 := jm_wshe ⟨j, hj⟩
  simp only [Int64.toBitVec_toInt32, Int64.toBitVec_shiftRight, Int32.toBitVec_shiftRight, Int32.toBitVec_toInt64] at *
  rw [h1, h2]
  have n1 : (BitVec.ofNat 64 j).toNat = j := by simp; omega
  have n2 : (BitVec.ofNat 32 j).toNat = j := by simp; omega
  rw [BitVec.sshiftRight_eq', BitVec.sshiftRight_eq', n1, n2]
  apply BitVec.eq_of_getLsbD_eq
  intro i hi
  have q1 : i < 64 := by omega
  have q2 : j + i < 64 := by omega
  rw [BitVec.getLsbD_signExtend, BitVec.getLsbD_sshiftRight, BitVec.getLsbD_sshiftRight, BitVec.getLsbD_signExtend]
  have q4 : ¬ 64 ≤ i := by omega
  have q5 : ¬ 32 ≤ i := by omega
  by_cases q3 : j + i < 32
  · simp [hi, q1, q2, q3, q4, q5]
  · simp [hi, q1, q2, q3, q4, q5]
theorem jm_wge (a b : Int32) : (0 ≤ lg_cmp a.toInt64 b.toInt64) ↔ ¬ a < b := by
  rw [lg_cmp_ge, Int64.le_iff_toInt_le, Int32.toInt_toInt64, Int32.toInt_toInt64, Int32.lt_iff_toInt_lt]
  omega
theorem jm_weq (a b : Int32) : (lg_cmp a.toInt64 b.toInt64 = 0) ↔ a = b := by
  rw [lg_cmp_eq]
  constructor
  · intro h
    have := congrArg Int64.toInt h
    rw [Int32.toInt_toInt64, Int32.toInt_toInt64] at this
    exact Int32.toInt_inj.mp this
  · intro h; rw [h]
theorem wd_0 : decode jm_wkB 0 = .ok (.iload_n 1, 1) := by decide +kernel
theorem wd_1 : decode jm_wkB 1 = .ok (.i2l, 1) := by decide +kernel
theorem wd_2 : decode jm_wkB 2 = .ok (.lstore_n 3, 1) := by decide +kernel
theorem wd_3 : decode jm_wkB 3 = .ok (.iload_n 2, 1) := by decide +kernel
theorem wd_4 : decode jm_wkB 4 = .ok (.i2l, 1) := by decide +kernel
theorem wd_5 : decode jm_wkB 5 = .ok (.lstore 5, 2) := by decide +kernel
theorem wd_7 : decode jm_wkB 7 = .ok (.iload_n 0, 1) := by decide +kernel
theorem wd_8 : decode jm_wkB 8 = .ok (.tableswitch 131 6 16 #[60, 66, 72, 78, 84, 90, 94, 98, 102, 110, 118], 60) := by decide +kernel
theorem wd_68 : decode jm_wkB 68 = .ok (.lload_n 3, 1) := by decide +kernel
theorem wd_69 : decode jm_wkB 69 = .ok (.lload 5, 2) := by decide +kernel
theorem wd_71 : decode jm_wkB 71 = .ok (.ladd, 1) := by decide +kernel
theorem wd_72 : decode jm_wkB 72 = .ok (.l2i, 1) := by decide +kernel
theorem wd_73 : decode jm_wkB 73 = .ok (.ireturn, 1) := by decide +kernel
theorem wd_74 : decode jm_wkB 74 = .ok (.lload_n 3, 1) := by decide +kernel
theorem wd_75 : decode jm_wkB 75 = .ok (.lload 5, 2) := by decide +kernel
theorem wd_77 : decode jm_wkB 77 = .ok (.lsub, 1) := by decide +kernel
theorem wd_78 : decode jm_wkB 78 = .ok (.l2i, 1) := by decide +kernel
theorem wd_79 : decode jm_wkB 79 = .ok (.ireturn, 1) := by decide +kernel
theorem wd_80 : decode jm_wkB 80 = .ok (.lload_n 3, 1) := by decide +kernel
theorem wd_81 : decode jm_wkB 81 = .ok (.lload 5, 2) := by decide +kernel
theorem wd_83 : decode jm_wkB 83 = .ok (.lmul, 1) := by decide +kernel
theorem wd_84 : decode jm_wkB 84 = .ok (.l2i, 1) := by decide +kernel
theorem wd_85 : decode jm_wkB 85 = .ok (.ireturn, 1) := by decide +kernel
theorem wd_86 : decode jm_wkB 86 = .ok (.lload_n 3, 1) := by decide +kernel
theorem wd_87 : decode jm_wkB 87 = .ok (.lload 5, 2) := by decide +kernel
theorem wd_89 : decode jm_wkB 89 = .ok (.ldiv, 1) := by decide +kernel
theorem wd_90 : decode jm_wkB 90 = .ok (.l2i, 1) := by decide +kernel
theorem wd_91 : decode jm_wkB 91 = .ok (.ireturn, 1) := by decide +kernel
theorem wd_92 : decode jm_wkB 92 = .ok (.lload_n 3, 1) := by decide +kernel
theorem wd_93 : decode jm_wkB 93 = .ok (.lload 5, 2) := by decide +kernel
theorem wd_95 : decode jm_wkB 95 = .ok (.lrem, 1) := by decide +kernel
theorem wd_96 : decode jm_wkB 96 = .ok (.l2i, 1) := by decide +kernel
theorem wd_97 : decode jm_wkB 97 = .ok (.ireturn, 1) := by decide +kernel
theorem wd_98 : decode jm_wkB 98 = .ok (.iload_n 1, 1) := by decide +kernel
theorem wd_99 : decode jm_wkB 99 = .ok (.iload_n 2, 1) := by decide +kernel
theorem wd_100 : decode jm_wkB 100 = .ok (.iand, 1) := by decide +kernel
theorem wd_101 : decode jm_wkB 101 = .ok (.ireturn, 1) := by decide +kernel
theorem wd_102 : decode jm_wkB 102 = .ok (.iload_n 1, 1) := by decide +kernel
theorem wd_103 : decode jm_wkB 103 = .ok (.iload_n 2, 1) := by decide +kernel
theorem wd_104 : decode jm_wkB 104 = .ok (.ior, 1) := by decide +kernel
theorem wd_105 : decode jm_wkB 105 = .ok (.ireturn, 1) := by decide +kernel
theorem wd_106 : decode jm_wkB 106 = .ok (.iload_n 1, 1) := by decide +kernel
theorem wd_107 : decode jm_wkB 107 = .ok (.iload_n 2, 1) := by decide +kernel
theorem wd_108 : decode jm_wkB 108 = .ok (.ixor, 1) := by decide +kernel
theorem wd_109 : decode jm_wkB 109 = .ok (.ireturn, 1) := by decide +kernel
theorem wd_110 : decode jm_wkB 110 = .ok (.lload_n 3, 1) := by decide +kernel
theorem wd_111 : decode jm_wkB 111 = .ok (.iload_n 2, 1) := by decide +kernel
theorem wd_112 : decode jm_wkB 112 = .ok (.bipush 31, 2) := by decide +kernel
theorem wd_114 : decode jm_wkB 114 = .ok (.iand, 1) := by decide +kernel
theorem wd_115 : decode jm_wkB 115 = .ok (.lshl, 1) := by decide +kernel
theorem wd_116 : decode jm_wkB 116 = .ok (.l2i, 1) := by decide +kernel
theorem wd_117 : decode jm_wkB 117 = .ok (.ireturn, 1) := by decide +kernel
theorem wd_118 : decode jm_wkB 118 = .ok (.lload_n 3, 1) := by decide +kernel
theorem wd_119 : decode jm_wkB 119 = .ok (.iload_n 2, 1) := by decide +kernel
theorem wd_120 : decode jm_wkB 120 = .ok (.bipush 31, 2) := by decide +kernel
theorem wd_122 : decode jm_wkB 122 = .ok (.iand, 1) := by decide +kernel
theorem wd_123 : decode jm_wkB 123 = .ok (.lshr, 1) := by decide +kernel
theorem wd_124 : decode jm_wkB 124 = .ok (.l2i, 1) := by decide +kernel
theorem wd_125 : decode jm_wkB 125 = .ok (.ireturn, 1) := by decide +kernel
theorem wd_126 : decode jm_wkB 126 = .ok (.lload_n 3, 1) := by decide +kernel
theorem wd_127 : decode jm_wkB 127 = .ok (.lload 5, 2) := by decide +kernel
theorem wd_129 : decode jm_wkB 129 = .ok (.lcmp, 1) := by decide +kernel
theorem wd_130 : decode jm_wkB 130 = .ok (.ifCond .ge 7, 3) := by decide +kernel
theorem wd_133 : decode jm_wkB 133 = .ok (.iconst 1, 1) := by decide +kernel
theorem wd_134 : decode jm_wkB 134 = .ok (.goto 4, 3) := by decide +kernel
theorem wd_137 : decode jm_wkB 137 = .ok (.iconst 0, 1) := by decide +kernel
theorem wd_138 : decode jm_wkB 138 = .ok (.ireturn, 1) := by decide +kernel
theorem wd_139 : decode jm_wkB 139 = .ok (.lload_n 3, 1) := by decide +kernel
theorem wd_140 : decode jm_wkB 140 = .ok (.lload 5, 2) := by decide +kernel
theorem wd_142 : decode jm_wkB 142 = .ok (.lcmp, 1) := by decide +kernel
theorem wd_143 : decode jm_wkB 143 = .ok (.ifCond .ne 7, 3) := by decide +kernel
theorem wd_146 : decode jm_wkB 146 = .ok (.iconst 1, 1) := by decide +kernel
theorem wd_147 : decode jm_wkB 147 = .ok (.goto 4, 3) := by decide +kernel
theorem wd_150 : decode jm_wkB 150 = .ok (.iconst 0, 1) := by decide +kernel
theorem wd_151 : decode jm_wkB 151 = .ok (.ireturn, 1) := by decide +kernel
theorem jm_wsplit (op : Int32) (h : ¬ (op.toInt < 6 ∨ 16 < op.toInt)) : op = 6 ∨ op = 7 ∨ op = 8 ∨ op = 9 ∨ op = 10 ∨ op = 11 ∨ op = 12 ∨ op = 13 ∨ op = 14 ∨ op = 15 ∨ op = 16 := by
  have k : op.toInt = 6 ∨ op.toInt = 7 ∨ op.toInt = 8 ∨ op.toInt = 9 ∨ op.toInt = 10 ∨ op.toInt = 11 ∨ op.toInt = 12 ∨ op.toInt = 13 ∨ op.toInt = 14 ∨ op.toInt = 15 ∨ op.toInt = 16 := by omega
  rcases k with k | k | k | k | k | k | k | k | k | k | k
  · have : op = 6 := Int32.toInt_inj.mp k
    simp [this]
  · have : op = 7 := Int32.toInt_inj.mp k
    simp [this]
  · have : op = 8 := Int32.toInt_inj.mp k
    simp [this]
  · have : op = 9 := Int32.toInt_inj.mp k
    simp [this]
  · have : op = 10 := Int32.toInt_inj.mp k
    simp [this]
  · have : op = 11 := Int32.toInt_inj.mp k
    simp [this]
  · have : op = 12 := Int32.toInt_inj.mp k
    simp [this]
  · have : op = 13 := Int32.toInt_inj.mp k
    simp [this]
  · have : op = 14 := Int32.toInt_inj.mp k
    simp [this]
  · have : op = 15 := Int32.toInt_inj.mp k
    simp [this]
  · have : op = 16 := Int32.toInt_inj.mp k
    simp [this]
set_option maxHeartbeats 4000000 in
set_option maxRecDepth 100000 in
theorem jm_worked (l : Launch) (op a b : Int32) (h0 : ¬ ((op = 9 ∨ op = 10) ∧ b = 0)) : Met l jm_wkN [Cond.code jm_wkN jm_wkB 7 (some .int)] { frames := 0, cells := 0, slots := 0, locals := 0 } (va_Pc [.int op, .int a, .int b] (fun _ => True)) (fun _ st oc t => oc = .returned (some (.int (jm_wk op a b))) ∧ t.heap = st.heap) 0 0 (fun _ => False) := by
  refine Met.ofW (cc := jm_wkB) (maxL := 7) (ret := (some .int)) (by decide) rfl ?_
  intro p e s m args below meth c s₁ B hml hv
  obtain ⟨rfl, -⟩ := hv
  have hx := B.exec
  have hb := B.bytes
  have hr := B.returns
  have hlocks := B.notSynchronized
  have hl := lv_entry ([.int op, .int a, .int b]) (n := 7) (Nat.le_of_ble_eq_true rfl)
  rw [lg_entry_eq]
  generalize (lg_sl ([.int op, .int a, .int b]) ++ List.replicate (7 - (lg_sl ([.int op, .int a, .int b])).length) Slot.unset).toArray = ls at hl ⊢
  have hl : lv_has ls 7 [(0, .int op), (1, .int a), (2, .int b)] := hl
  have fin : ∀ (pc : Nat) (ls : Array Slot) (v : Int32), v = jm_wk op a b → decode jm_wkB pc = .ok (.ireturn, 1) → W p l e (headSpec [Cond.code jm_wkN jm_wkB 7 (some .int)] { frames := 0, cells := 0, slots := 0, locals := 0 }).room s m ([Value.int op, Value.int a, Value.int b] : List Value).toArray below meth c s.heap [] 0 0 (MQ below (fun _ st oc t => oc = .returned (some (.int (jm_wk op a b))) ∧ t.heap = st.heap) ([Value.int op, Value.int a, Value.int b] : List Value).toArray s 0 0 (fun _ => False)) (F0 m pc ls [.int v]) := by
    intro pc ls v hv hd
    subst hv
    exact W.iret hx hb hr (fun t ht hW => ⟨rfl, ht⟩) (fun q hq => absurd hq List.not_mem_nil) hd
  refine lv_iload_n hx hb wd_0 rfl (lv_at hl 1 rfl) ?_
  refine lv_i2l hx hb wd_1 rfl ?_
  refine lv_lstore_n (lv' := [(3, .long a.toInt64), (0, .int op), (1, .int a), (2, .int b)]) hx hb wd_2 rfl hl (by decide) rfl (fun ls hl => ?_)
  refine lv_iload_n hx hb wd_3 rfl (lv_at hl 3 rfl) ?_
  refine lv_i2l hx hb wd_4 rfl ?_
  refine lv_lstore (lv' := [(5, .long b.toInt64), (3, .long a.toInt64), (0, .int op), (1, .int a), (2, .int b)]) hx hb wd_5 hl (by decide) rfl (fun ls hl => ?_)
  refine lv_iload_n hx hb wd_7 rfl (lv_at hl 2 rfl) ?_
  by_cases ho : op.toInt < 6 ∨ 16 < op.toInt
  · refine lv_tableOut (tgt := 139) hx hb wd_8 ho (by decide) ?_
    have hne : ∀ k : Int32, (6 ≤ k.toInt ∧ k.toInt ≤ 16) → ¬ op = k := fun k hk z => by rw [z] at ho; omega
    have hw : jm_wk op a b = if a = b then 1 else 0 := by
      unfold jm_wk
      rw [if_neg (hne 6 (by decide)), if_neg (hne 7 (by decide)), if_neg (hne 8 (by decide)), if_neg (hne 9 (by decide)), if_neg (hne 10 (by decide)), if_neg (hne 11 (by decide)), if_neg (hne 12 (by decide)), if_neg (hne 13 (by decide)), if_neg (hne 14 (by decide)), if_neg (hne 15 (by decide)), if_neg (hne 16 (by decide))]
    refine lv_lload_n hx hb wd_139 rfl (lv_at hl 1 rfl) ?_
    refine lv_lload hx hb wd_140 (lv_at hl 0 rfl) ?_
    refine W.lcmp hx hb wd_142 ?_
    refine lv_if_ne (tgt := 150) hx hb wd_143 (by decide) (fun h => ?_) (fun h => ?_)
    · refine lv_iconst (v := 0) hx hb wd_150 (by decide) ?_
      exact fin 151 ls 0 (by rw [hw, if_neg (fun z => h ((jm_weq a b).mpr z))]) wd_151
    · refine lv_iconst (v := 1) hx hb wd_146 (by decide) ?_
      refine lv_goto (tgt := 151) hx hb wd_147 (by decide) ?_
      exact fin 151 ls 1 (by rw [hw, if_pos ((jm_weq a b).mp h)]) wd_151
  · rcases jm_wsplit op ho with rfl | rfl | rfl | rfl | rfl | rfl | rfl | rfl | rfl | rfl | rfl
    · refine lv_tableIn (tgt := 68) hx hb wd_8 (by decide) (by decide) rfl (by decide) ?_
      refine lv_lload_n hx hb wd_68 rfl (lv_at hl 1 rfl) ?_
      refine lv_lload hx hb wd_69 (lv_at hl 0 rfl) ?_
      refine lv_ladd hx hb wd_71 ?_
      refine lv_l2i hx hb wd_72 rfl ?_
      exact fin 73 ls _ (by rw [lg_l2i_add, lg_l2i_i2l, lg_l2i_i2l]; rfl) wd_73
    · refine lv_tableIn (tgt := 74) hx hb wd_8 (by decide) (by decide) rfl (by decide) ?_
      refine lv_lload_n hx hb wd_74 rfl (lv_at hl 1 rfl) ?_
      refine lv_lload hx hb wd_75 (lv_at hl 0 rfl) ?_
      refine lv_lsub hx hb wd_77 ?_
      refine lv_l2i hx hb wd_78 rfl ?_
      exact fin 79 ls _ (by rw [lg_l2i_sub, lg_l2i_i2l, lg_l2i_i2l]; rfl) wd_79
    · refine lv_tableIn (tgt := 80) hx hb wd_8 (by decide) (by decide) rfl (by decide) ?_
      refine lv_lload_n hx hb wd_80 rfl (lv_at hl 1 rfl) ?_
      refine lv_lload hx hb wd_81 (lv_at hl 0 rfl) ?_
      refine lv_lmul hx hb wd_83 ?_
      refine lv_l2i hx hb wd_84 rfl ?_
      exact fin 85 ls _ (by rw [lg_l2i_mul, lg_l2i_i2l, lg_l2i_i2l]; rfl) wd_85
    · refine lv_tableIn (tgt := 86) hx hb wd_8 (by decide) (by decide) rfl (by decide) ?_
      have hz : ¬ b.toInt64 = 0 := fun z => h0 ⟨by decide, by have := congrArg Int64.toInt z; rw [Int32.toInt_toInt64] at this; exact Int32.toInt_inj.mp this⟩
      refine lv_lload_n hx hb wd_86 rfl (lv_at hl 1 rfl) ?_
      refine lv_lload hx hb wd_87 (lv_at hl 0 rfl) ?_
      refine lv_ldiv hx hb wd_89 hz ?_
      refine lv_l2i hx hb wd_90 rfl ?_
      exact fin 91 ls _ (by rw [jm_wdiv]; rfl) wd_91
    · refine lv_tableIn (tgt := 92) hx hb wd_8 (by decide) (by decide) rfl (by decide) ?_
      have hz : ¬ b.toInt64 = 0 := fun z => h0 ⟨by decide, by have := congrArg Int64.toInt z; rw [Int32.toInt_toInt64] at this; exact Int32.toInt_inj.mp this⟩
      refine lv_lload_n hx hb wd_92 rfl (lv_at hl 1 rfl) ?_
      refine lv_lload hx hb wd_93 (lv_at hl 0 rfl) ?_
      refine lv_lrem hx hb wd_95 hz ?_
      refine lv_l2i hx hb wd_96 rfl ?_
      exact fin 97 ls _ (by rw [lg_l2i_sub, lg_l2i_mul, jm_wdiv, lg_l2i_i2l, lg_l2i_i2l]; rfl) wd_97
    · refine lv_tableIn (tgt := 98) hx hb wd_8 (by decide) (by decide) rfl (by decide) ?_
      refine lv_iload_n hx hb wd_98 rfl (lv_at hl 3 rfl) ?_
      refine lv_iload_n hx hb wd_99 rfl (lv_at hl 4 rfl) ?_
      refine lv_iand hx hb wd_100 ?_
      exact fin 101 ls _ rfl wd_101
    · refine lv_tableIn (tgt := 102) hx hb wd_8 (by decide) (by decide) rfl (by decide) ?_
      refine lv_iload_n hx hb wd_102 rfl (lv_at hl 3 rfl) ?_
      refine lv_iload_n hx hb wd_103 rfl (lv_at hl 4 rfl) ?_
      refine lv_ior hx hb wd_104 ?_
      exact fin 105 ls _ rfl wd_105
    · refine lv_tableIn (tgt := 106) hx hb wd_8 (by decide) (by decide) rfl (by decide) ?_
      refine lv_iload_n hx hb wd_106 rfl (lv_at hl 3 rfl) ?_
      refine lv_iload_n hx hb wd_107 rfl (lv_at hl 4 rfl) ?_
      refine lv_ixor hx hb wd_108 ?_
      exact fin 109 ls _ rfl wd_109
    · refine lv_tableIn (tgt := 110) hx hb wd_8 (by decide) (by decide) rfl (by decide) ?_
      refine lv_lload_n hx hb wd_110 rfl (lv_at hl 1 rfl) ?_
      refine lv_iload_n hx hb wd_111 rfl (lv_at hl 4 rfl) ?_
      refine lv_bipush (v := 31) hx hb wd_112 (by decide) ?_
      refine lv_iand hx hb wd_114 ?_
      refine lv_lshl hx hb wd_115 rfl ?_
      refine lv_l2i hx hb wd_116 rfl ?_
      exact fin 117 ls _ (by rw [jm_wshl]; rfl) wd_117
    · refine lv_tableIn (tgt := 118) hx hb wd_8 (by decide) (by decide) rfl (by decide) ?_
      refine lv_lload_n hx hb wd_118 rfl (lv_at hl 1 rfl) ?_
      refine lv_iload_n hx hb wd_119 rfl (lv_at hl 4 rfl) ?_
      refine lv_bipush (v := 31) hx hb wd_120 (by decide) ?_
      refine lv_iand hx hb wd_122 ?_
      refine lv_lshr hx hb wd_123 rfl ?_
      refine lv_l2i hx hb wd_124 rfl ?_
      exact fin 125 ls _ (by rw [jm_wshr]; rfl) wd_125
    · refine lv_tableIn (tgt := 126) hx hb wd_8 (by decide) (by decide) rfl (by decide) ?_
      have hw : jm_wk 16 a b = if a < b then 1 else 0 := rfl
      refine lv_lload_n hx hb wd_126 rfl (lv_at hl 1 rfl) ?_
      refine lv_lload hx hb wd_127 (lv_at hl 0 rfl) ?_
      refine W.lcmp hx hb wd_129 ?_
      refine lv_if_ge (tgt := 137) hx hb wd_130 (by decide) (fun h => ?_) (fun h => ?_)
      · refine lv_iconst (v := 0) hx hb wd_137 (by decide) ?_
        exact fin 138 ls 0 (by rw [hw, if_neg ((jm_wge a b).mp h)]) wd_138
      · refine lv_iconst (v := 1) hx hb wd_133 (by decide) ?_
        refine lv_goto (tgt := 138) hx hb wd_134 (by decide) ?_
        exact fin 138 ls 1 (by rw [hw, if_pos (Classical.not_not.mp (fun z => h ((jm_wge a b).mpr z)))]) wd_138
theorem jw_wc : Cond.code jm_wkN jm_wkB 7 (some .int) ∈ jm_gw := jw4 (i := 102) rfl rfl
theorem jw_wi : Cond.initialized "StackRunModel" ∈ jm_gw := jw1 (i := 11) rfl rfl
theorem jm_work_inv {X : jm_X} {pc : Nat} {L : jm_L} {S : List jm_V} {σ : jm_S} {o : jm_O} (h : jk_work X pc L S σ = some o) : ∃ b a op S', S = .inl b :: .inl a :: .inl op :: S' ∧ ¬ ((op = 9 ∨ op = 10) ∧ b = 0) ∧ S'.length ≤ 8 ∧ o = .inl (pc + 3, L, .inl (jm_wk op a b) :: S', σ) := by
  rcases S with _ | ⟨b | r1, _ | ⟨a | r2, _ | ⟨op | r3, S0⟩⟩⟩
  all_goals first | (cases h; done) | skip
  simp only [jk_work] at h
  split at h
  · cases h
  · rename_i hq
    cases h
    exact ⟨b, a, op, S0, rfl, fun z => hq (Or.inl z), Nat.le_of_not_lt (fun z => hq (Or.inr z)), rfl⟩
theorem jo_work {y pc idx : Nat} (hd : decode (jm_by y) pc = .ok (.invokestatic idx, 3)) (hl : Cond.methodLink (jm_nm y).cls idx jm_wkN ∈ jm_gw) (hs : Cond.static jm_wkN ∈ jm_gw) : jm_Ok y pc jk_work := by
  refine jm_pure ?_ ?_ ?_
  · intro X L S σ o h
    obtain ⟨b, a, op, S', -, -, -, ho⟩ := jm_work_inv h
    cases ho
  · intro X pc L S σ pc' L' S' σ' h
    obtain ⟨b, a, op, S', -, -, -, ho⟩ := jm_work_inv h
    cases ho
    rfl
  · intro p l e R s m args below meth c H locs cells slots Q D dA s0 b X L S σ pc' L' S' ls C hf h1 h2 h3 h4 hP hS hL kk
    obtain ⟨hx, hb, hr, hml, hown, hlk, hini, hts, hK, hnw, hao, hX, hbs, hs0⟩ := C
    obtain ⟨vb, va, op, S1, rfl, hz, h8, ho⟩ := jm_work_inv hf
    cases ho
    have hG : GoodIn jm_gw [Cond.code jm_wkN jm_wkB 7 (some .int)] := by
      intro w hw
      rw [List.mem_singleton] at hw
      subst hw
      exact ⟨jw_wc, jm_gw_good _ jw_wc⟩
    have hrun := va_runS (p := p) (l := l) (e := e) (R := R) (s := s) (m := m) (args := args) (below := below) (meth := meth) (c := c) (H := H) (locs := locs) (cells := cells) (slots := slots) (cc := jm_by y) (nL := jm_mx y) (As := [.int op, .int va, .int vb]) (rest := S1.map (jm_cv s0 b)) (n := 3) (g := F0 m pc ls (.int vb :: .int va :: .int op :: S1.map (jm_cv s0 b))) ⟨hx, hb, hml, hown, hts⟩ (jm_worked l op va vb hz) ⟨callB_of 3 hts hG rfl rfl rfl (hts _ jw_wi) (hts _ hl) ⟨by decide, by decide, by decide +kernel⟩ ⟨by show 0 + 1 ≤ _; omega, by show 8 + (7 + 11) + 0 ≤ _; omega⟩, hts _ hs⟩ ⟨fun a U g mk h => h, fun U hU hW => ⟨rfl, trivial⟩⟩ rfl rfl hL.2.1 rfl (lv_room (by rw [jm_catsum]; exact h8)) hd ⟨by omega, by omega⟩
    intro T hT XX
    obtain ⟨v, st₀, t, T', LL, e0, X', hLL, e1, e2, ⟨hv, hh⟩, stt⟩ := hrun T hT XX
    cases hv
    have hLn : LL = [] := List.eq_nil_iff_forall_not_mem.mpr (fun q hq => hLL q hq)
    subst hLn
    rw [List.append_nil] at X'
    have hH : T'.heap = H := by rw [e1, hh, e0]
    obtain ⟨t2, a1, b1⟩ := kk ls hL T' hH X'
    exact ⟨t2, stt t2 a1, b1⟩
