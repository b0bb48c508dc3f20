def jm_tb : List (List (Nat × jm_I)) := [jt_0, jt_1, jt_2, jt_3, jt_4, jt_5, jt_6, jt_7, jt_8, jt_9, jt_10, jt_11, jt_12, jt_13, jt_14, jt_15, jt_16, jt_17, jt_18, jt_19, jt_20, jt_21, jt_22, jt_23, jt_24, jt_25, jt_26, jt_27, jt_28, jt_29, jt_30, jt_31, jt_32, jt_33, jt_34, jt_35, jt_36, jt_37, jt_38, jt_39, jt_40, jt_41, jt_42, jt_43, jt_44, jt_45, jt_46, jt_47, jt_48, jt_49, jt_50, jt_51, jt_52, jt_53, jt_54, jt_55, jt_56, jt_57, jt_58, jt_59, jt_60, jt_61, jt_62, jt_63, jt_64, jt_65, jt_66, jt_67, jt_68, jt_69, jt_70, jt_71, jt_72, jt_73, jt_74, jt_75, jt_76, jt_77, jt_78, jt_79, jt_80, jt_81, jt_82, jt_83, jt_84, jt_85, jt_86, jt_87, jt_88, jt_89, jt_90, jt_91, jt_92, jt_93, jt_94, jt_95, jt_96, jt_97, jt_98, jt_99, jt_100, jt_101, jt_102, jt_103, jt_104, jt_105, jt_106, jt_107, jt_108, jt_109, jt_110, jt_111, jt_112, jt_113, jt_114, jt_115, jt_116, jt_117, jt_118, jt_119, jt_120, jt_121, jt_122, jt_123, jt_124, jt_125, jt_126, jt_127, jt_128, jt_129, jt_130, jt_131, jt_132, jt_133, jt_134, jt_135, jt_136, jt_137, jt_138]
def jm_fe (y pc : Nat) : Option jm_I := (jm_tb.getD y []).lookup pc
def jm_allOk : Nat → List (List (Nat × jm_I)) → Prop
  | _, [] => True
  | y, l :: r => (∀ q ∈ l, jm_Ok y q.1 q.2) ∧ jm_allOk (y + 1) r
theorem jm_allOk_at : ∀ (T : List (List (Nat × jm_I))) (k i : Nat) (l : List (Nat × jm_I)), jm_allOk k T → T[i]? = some l → ∀ q ∈ l, jm_Ok (k + i) q.1 q.2 := by
  intro T
  induction T with
  | nil => intro k i l _ h; simp at h
  | cons a r ih =>
    intro k i l h hi
    cases i with
    | zero =>
      simp at hi
      subst hi
      exact h.1
    | succ i =>
      have := ih (k + 1) i l h.2 (by simpa using hi)
      rw [show k + (i + 1) = k + 1 + i by omega]
      exact this
theorem jm_lookup_mem : ∀ (l : List (Nat × jm_I)) (pc : Nat) (f : jm_I), l.lookup pc = some f → (pc, f) ∈ l := by
  intro l
  induction l with
  | nil => intro pc f h; cases h
  | cons q r ih =>
    intro pc f h
    obtain ⟨a, g⟩ := q
    rw [List.lookup_cons] at h
    by_cases e : pc = a
    · subst e
      simp at h
      subst h
      exact List.mem_cons_self
    · have e2 : (pc == a) = false := by simpa using e
      rw [e2] at h
      exact List.mem_cons_of_mem _ (ih pc f h)
theorem jm_tb_ok : jm_allOk 0 jm_tb := ⟨jq_0, jq_1, jq_2, jq_3, jq_4, jq_5, jq_6, jq_7, jq_8, jq_9, jq_10, jq_11, jq_12, jq_13, jq_14, jq_15, jq_16, jq_17, jq_18, jq_19, jq_20, jq_21, jq_22, jq_23, jq_24, jq_25, jq_26, jq_27, jq_28, jq_29, jq_30, jq_31, jq_32, jq_33, jq_34, jq_35, jq_36, jq_37, jq_38, jq_39, jq_40, jq_41, jq_42, jq_43, jq_44, jq_45, jq_46, jq_47, jq_48, jq_49, jq_50, jq_51, jq_52, jq_53, jq_54, jq_55, jq_56, jq_57, jq_58, jq_59, jq_60, jq_61, jq_62, jq_63, jq_64, jq_65, jq_66, jq_67, jq_68, jq_69, jq_70, jq_71, jq_72, jq_73, jq_74, jq_75, jq_76, jq_77, jq_78, jq_79, jq_80, jq_81, jq_82, jq_83, jq_84, jq_85, jq_86, jq_87, jq_88, jq_89, jq_90, jq_91, jq_92, jq_93, jq_94, jq_95, jq_96, jq_97, jq_98, jq_99, jq_100, jq_101, jq_102, jq_103, jq_104, jq_105, jq_106, jq_107, jq_108, jq_109, jq_110, jq_111, jq_112, jq_113, jq_114, jq_115, jq_116, jq_117, jq_118, jq_119, jq_120, jq_121, jq_122, jq_123, jq_124, jq_125, jq_126, jq_127, jq_128, jq_129, jq_130, jq_131, jq_132, jq_133, jq_134, jq_135, jq_136, jq_137, jq_138, trivial⟩
theorem jm_fe_ok (y pc : Nat) (f : jm_I) (h : jm_fe y pc = some f) : jm_Ok y pc f := by
  unfold jm_fe at h
  rw [List.getD_eq_getElem?_getD] at h
  cases hy : jm_tb[y]? with
  | none => rw [hy] at h; cases h
  | some l =>
    rw [hy] at h
    have := jm_allOk_at jm_tb 0 y l jm_tb_ok hy (pc, f) (jm_lookup_mem l pc f h)
    rw [Nat.zero_add] at this
    exact this
