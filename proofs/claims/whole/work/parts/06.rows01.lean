/-! S_init -/
def jt_1_0 : List (Nat × jm_I) := [(0, jk_aload 0 1), (1, jk_oinit), (4, jk_aload 0 1), (5, jk_new 1 jc_new1), (8, jk_dup), (9, jk_callI 101 0), (12, jk_putf 0 0 2), (15, jk_aload 0 1), (16, jk_new 3 jc_new3), (19, jk_dup), (20, jk_callI 64 0), (23, jk_putf 0 1 2), (26, jk_aload 0 1), (27, jk_new 4 jc_new4), (30, jk_dup), (31, jk_aload 0 1), (32, jk_getf 0 0), (35, jk_aload 0 1), (36, jk_getf 0 1), (39, jk_callI 112 2), (42, jk_putf 0 2 2), (45, jk_ret)]
theorem jq_1_0 : ∀ q ∈ jt_1_0, jm_Ok 1 q.1 q.2 := List.forall_mem_cons.mpr ⟨jo_aload_n (k := 0) (by decide +kernel),
  List.forall_mem_cons.mpr ⟨jo_oinit (by decide +kernel) ⟨jw_106, jw_107, jw_oi⟩,
  List.forall_mem_cons.mpr ⟨jo_aload_n (k := 0) (by decide +kernel),
  List.forall_mem_cons.mpr ⟨jo_new (by decide +kernel) (jc_at1) jc_ty1 jc_ok1 jc_in1 ⟨jw_108, jw_109, jw_110⟩ rfl jc_df1,
  List.forall_mem_cons.mpr ⟨jo_dup (by decide +kernel),
  List.forall_mem_cons.mpr ⟨jo_callI (by decide +kernel) jw_111 jw_112 rfl rfl jce_101 (by decide) (by decide),
  List.forall_mem_cons.mpr ⟨jo_putF (by decide +kernel) (jc_at0) (by decide)  jc_ty0 jc_ok0 jc_nm0 jc_in0 jw_113 rfl rfl rfl (ty := .object "StackRun$Program") (by decide +kernel) (Or.inr (Or.inr (Or.inl ⟨rfl, _, rfl⟩))),
  List.forall_mem_cons.mpr ⟨jo_aload_n (k := 0) (by decide +kernel),
  List.forall_mem_cons.mpr ⟨jo_new (by decide +kernel) (jc_at3) jc_ty3 jc_ok3 jc_in3 ⟨jw_114, jw_115, jw_116⟩ rfl jc_df3,
  List.forall_mem_cons.mpr ⟨jo_dup (by decide +kernel),
  List.forall_mem_cons.mpr ⟨jo_callI (by decide +kernel) jw_117 jw_118 rfl rfl jce_64 (by decide) (by decide),
  List.forall_mem_cons.mpr ⟨jo_putF (by decide +kernel) (jc_at0) (by decide)  jc_ty0 jc_ok0 jc_nm0 jc_in0 jw_119 rfl rfl rfl (ty := .object "StackRun$Answers") (by decide +kernel) (Or.inr (Or.inr (Or.inl ⟨rfl, _, rfl⟩))),
  List.forall_mem_cons.mpr ⟨jo_aload_n (k := 0) (by decide +kernel),
  List.forall_mem_cons.mpr ⟨jo_new (by decide +kernel) (jc_at4) jc_ty4 jc_ok4 jc_in4 ⟨jw_120, jw_121, jw_122⟩ rfl jc_df4,
  List.forall_mem_cons.mpr ⟨jo_dup (by decide +kernel),
  List.forall_mem_cons.mpr ⟨jo_aload_n (k := 0) (by decide +kernel),
  List.forall_mem_cons.mpr ⟨jo_getf (by decide +kernel) (jc_at0) (by decide)  jc_in0 jw_113,
  List.forall_mem_cons.mpr ⟨jo_aload_n (k := 0) (by decide +kernel),
  List.forall_mem_cons.mpr ⟨jo_getf (by decide +kernel) (jc_at0) (by decide)  jc_in0 jw_119,
  List.forall_mem_cons.mpr ⟨jo_callI (by decide +kernel) jw_123 jw_124 rfl rfl jce_112 (by decide) (by decide),
  List.forall_mem_cons.mpr ⟨jo_putF (by decide +kernel) (jc_at0) (by decide)  jc_ty0 jc_ok0 jc_nm0 jc_in0 jw_125 rfl rfl rfl (ty := .object "StackRun$Run") (by decide +kernel) (Or.inr (Or.inr (Or.inl ⟨rfl, _, rfl⟩))),
  List.forall_mem_cons.mpr ⟨jo_ret (by decide +kernel) rfl,
  fun _ h => absurd h List.not_mem_nil⟩⟩⟩⟩⟩⟩⟩⟩⟩⟩⟩⟩⟩⟩⟩⟩⟩⟩⟩⟩⟩⟩
def jt_1 : List (Nat × jm_I) := jt_1_0
theorem jq_1 : ∀ q ∈ jt_1, jm_Ok 1 q.1 q.2 := jq_1_0
/-! S_function -/
def jt_2_0 : List (Nat × jm_I) := [(0, jk_aload 0 1), (1, jk_getf 0 0), (4, jk_iload 1 1), (5, jk_iload 2 1), (6, jk_iload 3 1), (7, jk_callV 103 3 1), (10, jk_istore 4 2), (12, jk_iload 4 2), (14, jk_const (-1) 1), (15, jk_icmp .eq 25), (18, jk_aload 0 1), (19, jk_getf 0 2), (22, jk_callV 113 0 4), (25, jk_iload 4 2), (27, jk_iret)]
theorem jq_2_0 : ∀ q ∈ jt_2_0, jm_Ok 2 q.1 q.2 := List.forall_mem_cons.mpr ⟨jo_aload_n (k := 0) (by decide +kernel),
  List.forall_mem_cons.mpr ⟨jo_getf (by decide +kernel) (jc_at0) (by decide)  jc_in0 jw_113,
  List.forall_mem_cons.mpr ⟨jo_iload_n (k := 1) (by decide +kernel),
  List.forall_mem_cons.mpr ⟨jo_iload_n (k := 2) (by decide +kernel),
  List.forall_mem_cons.mpr ⟨jo_iload_n (k := 3) (by decide +kernel),
  List.forall_mem_cons.mpr ⟨jo_callV (by decide +kernel) (jc_at1) jw_126 jw_127 jw_128 jce_103 (by decide) (by decide),
  List.forall_mem_cons.mpr ⟨jo_istore (by decide +kernel),
  List.forall_mem_cons.mpr ⟨jo_iload (by decide +kernel),
  List.forall_mem_cons.mpr ⟨jo_iconst (n := -1) (by decide +kernel) (by decide),
  List.forall_mem_cons.mpr ⟨jo_icmp_eq (off := 10) (by decide +kernel) (by decide),
  List.forall_mem_cons.mpr ⟨jo_aload_n (k := 0) (by decide +kernel),
  List.forall_mem_cons.mpr ⟨jo_getf (by decide +kernel) (jc_at0) (by decide)  jc_in0 jw_125,
  List.forall_mem_cons.mpr ⟨jo_callV (by decide +kernel) (jc_at4) jw_129 jw_130 jw_131 jce_113 (by decide) (by decide),
  List.forall_mem_cons.mpr ⟨jo_iload (by decide +kernel),
  List.forall_mem_cons.mpr ⟨jo_iret (by decide +kernel) rfl,
  fun _ h => absurd h List.not_mem_nil⟩⟩⟩⟩⟩⟩⟩⟩⟩⟩⟩⟩⟩⟩⟩
def jt_2 : List (Nat × jm_I) := jt_2_0
theorem jq_2 : ∀ q ∈ jt_2, jm_Ok 2 q.1 q.2 := jq_2_0
/-! S_add -/
def jt_3_0 : List (Nat × jm_I) := [(0, jk_aload 0 1), (1, jk_getf 0 0), (4, jk_iload 1 1), (5, jk_callV 104 1 1), (8, jk_astore 4 2), (10, jk_aload 4 2), (12, jk_ifnonnull 17), (15, jk_const (-1) 1), (16, jk_iret), (17, jk_aload 4 2), (19, jk_iload 2 1), (20, jk_iload 3 1), (21, jk_callV 90 2 2), (24, jk_istore 5 2), (26, jk_iload 5 2), (28, jk_const (-1) 1), (29, jk_icmp .eq 39), (32, jk_aload 0 1), (33, jk_getf 0 2), (36, jk_callV 113 0 4), (39, jk_iload 5 2), (41, jk_iret)]
theorem jq_3_0 : ∀ q ∈ jt_3_0, jm_Ok 3 q.1 q.2 := List.forall_mem_cons.mpr ⟨jo_aload_n (k := 0) (by decide +kernel),
  List.forall_mem_cons.mpr ⟨jo_getf (by decide +kernel) (jc_at0) (by decide)  jc_in0 jw_113,
  List.forall_mem_cons.mpr ⟨jo_iload_n (k := 1) (by decide +kernel),
  List.forall_mem_cons.mpr ⟨jo_callV (by decide +kernel) (jc_at1) jw_132 jw_133 jw_134 jce_104 (by decide) (by decide),
  List.forall_mem_cons.mpr ⟨jo_astore (by decide +kernel),
  List.forall_mem_cons.mpr ⟨jo_aload (by decide +kernel),
  List.forall_mem_cons.mpr ⟨jo_ifnonnull (off := 5) (by decide +kernel) (by decide),
  List.forall_mem_cons.mpr ⟨jo_iconst (n := -1) (by decide +kernel) (by decide),
  List.forall_mem_cons.mpr ⟨jo_iret (by decide +kernel) rfl,
  List.forall_mem_cons.mpr ⟨jo_aload (by decide +kernel),
  List.forall_mem_cons.mpr ⟨jo_iload_n (k := 2) (by decide +kernel),
  List.forall_mem_cons.mpr ⟨jo_iload_n (k := 3) (by decide +kernel),
  List.forall_mem_cons.mpr ⟨jo_callV (by decide +kernel) (jc_at2) jw_135 jw_137 jw_138 jce_90 (by decide) (by decide),
  List.forall_mem_cons.mpr ⟨jo_istore (by decide +kernel),
  List.forall_mem_cons.mpr ⟨jo_iload (by decide +kernel),
  List.forall_mem_cons.mpr ⟨jo_iconst (n := -1) (by decide +kernel) (by decide),
  List.forall_mem_cons.mpr ⟨jo_icmp_eq (off := 10) (by decide +kernel) (by decide),
  List.forall_mem_cons.mpr ⟨jo_aload_n (k := 0) (by decide +kernel),
  List.forall_mem_cons.mpr ⟨jo_getf (by decide +kernel) (jc_at0) (by decide)  jc_in0 jw_125,
  List.forall_mem_cons.mpr ⟨jo_callV (by decide +kernel) (jc_at4) jw_129 jw_130 jw_131 jce_113 (by decide) (by decide),
  List.forall_mem_cons.mpr ⟨jo_iload (by decide +kernel),
  List.forall_mem_cons.mpr ⟨jo_iret (by decide +kernel) rfl,
  fun _ h => absurd h List.not_mem_nil⟩⟩⟩⟩⟩⟩⟩⟩⟩⟩⟩⟩⟩⟩⟩⟩⟩⟩⟩⟩⟩⟩
def jt_3 : List (Nat × jm_I) := jt_3_0
theorem jq_3 : ∀ q ∈ jt_3, jm_Ok 3 q.1 q.2 := jq_3_0
/-! S_change -/
def jt_4_0 : List (Nat × jm_I) := [(0, jk_aload 0 1), (1, jk_getf 0 0), (4, jk_iload 1 1), (5, jk_callV 104 1 1), (8, jk_astore 5 2), (10, jk_aload 5 2), (12, jk_ifnull 35), (15, jk_aload 0 1), (16, jk_aload 5 2), (18, jk_iload 2 1), (19, jk_iload 3 1), (20, jk_iload 4 2), (22, jk_callV 91 3 2), (25, jk_callV 18 1 0), (28, jk_if .eq 35), (31, jk_const 1 1), (32, jk_goto 36), (35, jk_const 0 1), (36, jk_zret)]
theorem jq_4_0 : ∀ q ∈ jt_4_0, jm_Ok 4 q.1 q.2 := List.forall_mem_cons.mpr ⟨jo_aload_n (k := 0) (by decide +kernel),
  List.forall_mem_cons.mpr ⟨jo_getf (by decide +kernel) (jc_at0) (by decide)  jc_in0 jw_113,
  List.forall_mem_cons.mpr ⟨jo_iload_n (k := 1) (by decide +kernel),
  List.forall_mem_cons.mpr ⟨jo_callV (by decide +kernel) (jc_at1) jw_132 jw_133 jw_134 jce_104 (by decide) (by decide),
  List.forall_mem_cons.mpr ⟨jo_astore (by decide +kernel),
  List.forall_mem_cons.mpr ⟨jo_aload (by decide +kernel),
  List.forall_mem_cons.mpr ⟨jo_ifnull (off := 23) (by decide +kernel) (by decide),
  List.forall_mem_cons.mpr ⟨jo_aload_n (k := 0) (by decide +kernel),
  List.forall_mem_cons.mpr ⟨jo_aload (by decide +kernel),
  List.forall_mem_cons.mpr ⟨jo_iload_n (k := 2) (by decide +kernel),
  List.forall_mem_cons.mpr ⟨jo_iload_n (k := 3) (by decide +kernel),
  List.forall_mem_cons.mpr ⟨jo_iload (by decide +kernel),
  List.forall_mem_cons.mpr ⟨jo_callV (by decide +kernel) (jc_at2) jw_139 jw_140 jw_141 jce_91 (by decide) (by decide),
  List.forall_mem_cons.mpr ⟨jo_callV (by decide +kernel) (jc_at0) jw_142 jw_143 jw_144 jce_18 (by decide) (by decide),
  List.forall_mem_cons.mpr ⟨jo_if_eq (off := 7) (by decide +kernel) (by decide),
  List.forall_mem_cons.mpr ⟨jo_iconst (n := 1) (by decide +kernel) (by decide),
  List.forall_mem_cons.mpr ⟨jo_goto (off := 4) (by decide +kernel) (by decide),
  List.forall_mem_cons.mpr ⟨jo_iconst (n := 0) (by decide +kernel) (by decide),
  List.forall_mem_cons.mpr ⟨jo_zret (by decide +kernel) rfl,
  fun _ h => absurd h List.not_mem_nil⟩⟩⟩⟩⟩⟩⟩⟩⟩⟩⟩⟩⟩⟩⟩⟩⟩⟩⟩
def jt_4 : List (Nat × jm_I) := jt_4_0
theorem jq_4 : ∀ q ∈ jt_4, jm_Ok 4 q.1 q.2 := jq_4_0
/-! S_handler -/
def jt_5_0 : List (Nat × jm_I) := [(0, jk_aload 0 1), (1, jk_getf 0 0), (4, jk_iload 1 1), (5, jk_callV 104 1 1), (8, jk_astore 5 2), (10, jk_aload 5 2), (12, jk_ifnull 35), (15, jk_aload 0 1), (16, jk_aload 5 2), (18, jk_iload 2 1), (19, jk_iload 3 1), (20, jk_iload 4 2), (22, jk_callV 92 3 2), (25, jk_callV 18 1 0), (28, jk_if .eq 35), (31, jk_const 1 1), (32, jk_goto 36), (35, jk_const 0 1), (36, jk_zret)]
theorem jq_5_0 : ∀ q ∈ jt_5_0, jm_Ok 5 q.1 q.2 := List.forall_mem_cons.mpr ⟨jo_aload_n (k := 0) (by decide +kernel),
  List.forall_mem_cons.mpr ⟨jo_getf (by decide +kernel) (jc_at0) (by decide)  jc_in0 jw_113,
  List.forall_mem_cons.mpr ⟨jo_iload_n (k := 1) (by decide +kernel),
  List.forall_mem_cons.mpr ⟨jo_callV (by decide +kernel) (jc_at1) jw_132 jw_133 jw_134 jce_104 (by decide) (by decide),
  List.forall_mem_cons.mpr ⟨jo_astore (by decide +kernel),
  List.forall_mem_cons.mpr ⟨jo_aload (by decide +kernel),
  List.forall_mem_cons.mpr ⟨jo_ifnull (off := 23) (by decide +kernel) (by decide),
  List.forall_mem_cons.mpr ⟨jo_aload_n (k := 0) (by decide +kernel),
  List.forall_mem_cons.mpr ⟨jo_aload (by decide +kernel),
  List.forall_mem_cons.mpr ⟨jo_iload_n (k := 2) (by decide +kernel),
  List.forall_mem_cons.mpr ⟨jo_iload_n (k := 3) (by decide +kernel),
  List.forall_mem_cons.mpr ⟨jo_iload (by decide +kernel),
  List.forall_mem_cons.mpr ⟨jo_callV (by decide +kernel) (jc_at2) jw_145 jw_146 jw_147 jce_92 (by decide) (by decide),
  List.forall_mem_cons.mpr ⟨jo_callV (by decide +kernel) (jc_at0) jw_142 jw_143 jw_144 jce_18 (by decide) (by decide),
  List.forall_mem_cons.mpr ⟨jo_if_eq (off := 7) (by decide +kernel) (by decide),
  List.forall_mem_cons.mpr ⟨jo_iconst (n := 1) (by decide +kernel) (by decide),
  List.forall_mem_cons.mpr ⟨jo_goto (off := 4) (by decide +kernel) (by decide),
  List.forall_mem_cons.mpr ⟨jo_iconst (n := 0) (by decide +kernel) (by decide),
  List.forall_mem_cons.mpr ⟨jo_zret (by decide +kernel) rfl,
  fun _ h => absurd h List.not_mem_nil⟩⟩⟩⟩⟩⟩⟩⟩⟩⟩⟩⟩⟩⟩⟩⟩⟩⟩⟩
def jt_5 : List (Nat × jm_I) := jt_5_0
theorem jq_5 : ∀ q ∈ jt_5, jm_Ok 5 q.1 q.2 := jq_5_0
/-! S_only -/
def jt_6_0 : List (Nat × jm_I) := [(0, jk_aload 0 1), (1, jk_getf 0 0), (4, jk_iload 1 1), (5, jk_callV 104 1 1), (8, jk_astore 3 1), (9, jk_aload 3 1), (10, jk_ifnull 29), (13, jk_aload 0 1), (14, jk_aload 3 1), (15, jk_iload 2 1), (16, jk_callV 93 1 2), (19, jk_callV 18 1 0), (22, jk_if .eq 29), (25, jk_const 1 1), (26, jk_goto 30), (29, jk_const 0 1), (30, jk_zret)]
theorem jq_6_0 : ∀ q ∈ jt_6_0, jm_Ok 6 q.1 q.2 := List.forall_mem_cons.mpr ⟨jo_aload_n (k := 0) (by decide +kernel),
  List.forall_mem_cons.mpr ⟨jo_getf (by decide +kernel) (jc_at0) (by decide)  jc_in0 jw_113,
  List.forall_mem_cons.mpr ⟨jo_iload_n (k := 1) (by decide +kernel),
  List.forall_mem_cons.mpr ⟨jo_callV (by decide +kernel) (jc_at1) jw_132 jw_133 jw_134 jce_104 (by decide) (by decide),
  List.forall_mem_cons.mpr ⟨jo_astore_n (k := 3) (by decide +kernel),
  List.forall_mem_cons.mpr ⟨jo_aload_n (k := 3) (by decide +kernel),
  List.forall_mem_cons.mpr ⟨jo_ifnull (off := 19) (by decide +kernel) (by decide),
  List.forall_mem_cons.mpr ⟨jo_aload_n (k := 0) (by decide +kernel),
  List.forall_mem_cons.mpr ⟨jo_aload_n (k := 3) (by decide +kernel),
  List.forall_mem_cons.mpr ⟨jo_iload_n (k := 2) (by decide +kernel),
  List.forall_mem_cons.mpr ⟨jo_callV (by decide +kernel) (jc_at2) jw_148 jw_149 jw_150 jce_93 (by decide) (by decide),
  List.forall_mem_cons.mpr ⟨jo_callV (by decide +kernel) (jc_at0) jw_142 jw_143 jw_144 jce_18 (by decide) (by decide),
  List.forall_mem_cons.mpr ⟨jo_if_eq (off := 7) (by decide +kernel) (by decide),
  List.forall_mem_cons.mpr ⟨jo_iconst (n := 1) (by decide +kernel) (by decide),
  List.forall_mem_cons.mpr ⟨jo_goto (off := 4) (by decide +kernel) (by decide),
  List.forall_mem_cons.mpr ⟨jo_iconst (n := 0) (by decide +kernel) (by decide),
  List.forall_mem_cons.mpr ⟨jo_zret (by decide +kernel) rfl,
  fun _ h => absurd h List.not_mem_nil⟩⟩⟩⟩⟩⟩⟩⟩⟩⟩⟩⟩⟩⟩⟩⟩⟩
def jt_6 : List (Nat × jm_I) := jt_6_0
theorem jq_6 : ∀ q ∈ jt_6, jm_Ok 6 q.1 q.2 := jq_6_0
/-! S_clear -/
def jt_7_0 : List (Nat × jm_I) := [(0, jk_aload 0 1), (1, jk_getf 0 0), (4, jk_callV 102 0 1), (7, jk_aload 0 1), (8, jk_getf 0 2), (11, jk_callV 113 0 4), (14, jk_ret)]
theorem jq_7_0 : ∀ q ∈ jt_7_0, jm_Ok 7 q.1 q.2 := List.forall_mem_cons.mpr ⟨jo_aload_n (k := 0) (by decide +kernel),
  List.forall_mem_cons.mpr ⟨jo_getf (by decide +kernel) (jc_at0) (by decide)  jc_in0 jw_113,
  List.forall_mem_cons.mpr ⟨jo_callV (by decide +kernel) (jc_at1) jw_151 jw_152 jw_153 jce_102 (by decide) (by decide),
  List.forall_mem_cons.mpr ⟨jo_aload_n (k := 0) (by decide +kernel),
  List.forall_mem_cons.mpr ⟨jo_getf (by decide +kernel) (jc_at0) (by decide)  jc_in0 jw_125,
  List.forall_mem_cons.mpr ⟨jo_callV (by decide +kernel) (jc_at4) jw_129 jw_130 jw_131 jce_113 (by decide) (by decide),
  List.forall_mem_cons.mpr ⟨jo_ret (by decide +kernel) rfl,
  fun _ h => absurd h List.not_mem_nil⟩⟩⟩⟩⟩⟩⟩
def jt_7 : List (Nat × jm_I) := jt_7_0
theorem jq_7 : ∀ q ∈ jt_7, jm_Ok 7 q.1 q.2 := jq_7_0
/-! S_answer -/
def jt_8_0 : List (Nat × jm_I) := [(0, jk_aload 0 1), (1, jk_getf 0 1), (4, jk_iload 1 1), (5, jk_callV 66 1 3), (8, jk_iret)]
theorem jq_8_0 : ∀ q ∈ jt_8_0, jm_Ok 8 q.1 q.2 := List.forall_mem_cons.mpr ⟨jo_aload_n (k := 0) (by decide +kernel),
  List.forall_mem_cons.mpr ⟨jo_getf (by decide +kernel) (jc_at0) (by decide)  jc_in0 jw_119,
  List.forall_mem_cons.mpr ⟨jo_iload_n (k := 1) (by decide +kernel),
  List.forall_mem_cons.mpr ⟨jo_callV (by decide +kernel) (jc_at3) jw_154 jw_155 jw_156 jce_66 (by decide) (by decide),
  List.forall_mem_cons.mpr ⟨jo_iret (by decide +kernel) rfl,
  fun _ h => absurd h List.not_mem_nil⟩⟩⟩⟩⟩
def jt_8 : List (Nat × jm_I) := jt_8_0
theorem jq_8 : ∀ q ∈ jt_8, jm_Ok 8 q.1 q.2 := jq_8_0
/-! S_forget -/
def jt_9_0 : List (Nat × jm_I) := [(0, jk_aload 0 1), (1, jk_getf 0 1), (4, jk_callV 65 0 3), (7, jk_ret)]
theorem jq_9_0 : ∀ q ∈ jt_9_0, jm_Ok 9 q.1 q.2 := List.forall_mem_cons.mpr ⟨jo_aload_n (k := 0) (by decide +kernel),
  List.forall_mem_cons.mpr ⟨jo_getf (by decide +kernel) (jc_at0) (by decide)  jc_in0 jw_119,
  List.forall_mem_cons.mpr ⟨jo_callV (by decide +kernel) (jc_at3) jw_157 jw_158 jw_159 jce_65 (by decide) (by decide),
  List.forall_mem_cons.mpr ⟨jo_ret (by decide +kernel) rfl,
  fun _ h => absurd h List.not_mem_nil⟩⟩⟩⟩
def jt_9 : List (Nat × jm_I) := jt_9_0
theorem jq_9 : ∀ q ∈ jt_9, jm_Ok 9 q.1 q.2 := jq_9_0
/-! S_begin -/
def jt_10_0 : List (Nat × jm_I) := [(0, jk_aload 0 1), (1, jk_getf 0 2), (4, jk_callV 114 0 4), (7, jk_ret)]
theorem jq_10_0 : ∀ q ∈ jt_10_0, jm_Ok 10 q.1 q.2 := List.forall_mem_cons.mpr ⟨jo_aload_n (k := 0) (by decide +kernel),
  List.forall_mem_cons.mpr ⟨jo_getf (by decide +kernel) (jc_at0) (by decide)  jc_in0 jw_125,
  List.forall_mem_cons.mpr ⟨jo_callV (by decide +kernel) (jc_at4) jw_160 jw_161 jw_162 jce_114 (by decide) (by decide),
  List.forall_mem_cons.mpr ⟨jo_ret (by decide +kernel) rfl,
  fun _ h => absurd h List.not_mem_nil⟩⟩⟩⟩
def jt_10 : List (Nat × jm_I) := jt_10_0
theorem jq_10 : ∀ q ∈ jt_10, jm_Ok 10 q.1 q.2 := jq_10_0
/-! S_go -/
def jt_11_0 : List (Nat × jm_I) := [(0, jk_iload 1 1), (1, jk_const 1 1), (2, jk_icmp .lt 22), (5, jk_iload 1 1), (6, jk_const (5000) 3), (9, jk_icmp .gt 22), (12, jk_aload 0 1), (13, jk_getf 0 2), (16, jk_getf 4 5), (19, jk_if .ne 24), (22, jk_const (-1) 1), (23, jk_iret), (24, jk_const 0 1), (25, jk_istore 2 1), (26, jk_iload 2 1), (27, jk_iload 1 1), (28, jk_icmp .ge 54), (31, jk_aload 0 1), (32, jk_getf 0 2), (35, jk_getf 4 6), (38, jk_if .le 54), (41, jk_aload 0 1), (42, jk_getf 0 2), (45, jk_callV 118 0 4), (48, jk_iinc 2 (1)), (51, jk_goto 26), (54, jk_iload 2 1), (55, jk_iret)]
theorem jq_11_0 : ∀ q ∈ jt_11_0, jm_Ok 11 q.1 q.2 := List.forall_mem_cons.mpr ⟨jo_iload_n (k := 1) (by decide +kernel),
  List.forall_mem_cons.mpr ⟨jo_iconst (n := 1) (by decide +kernel) (by decide),
  List.forall_mem_cons.mpr ⟨jo_icmp_lt (off := 20) (by decide +kernel) (by decide),
  List.forall_mem_cons.mpr ⟨jo_iload_n (k := 1) (by decide +kernel),
  List.forall_mem_cons.mpr ⟨jo_sipush (n := 5000) (by decide +kernel) (by decide),
  List.forall_mem_cons.mpr ⟨jo_icmp_gt (off := 13) (by decide +kernel) (by decide),
  List.forall_mem_cons.mpr ⟨jo_aload_n (k := 0) (by decide +kernel),
  List.forall_mem_cons.mpr ⟨jo_getf (by decide +kernel) (jc_at0) (by decide)  jc_in0 jw_125,
  List.forall_mem_cons.mpr ⟨jo_getN (by decide +kernel) (jc_at4) (by decide)  jc_in4 jw_163,
  List.forall_mem_cons.mpr ⟨jo_if_ne (off := 5) (by decide +kernel) (by decide),
  List.forall_mem_cons.mpr ⟨jo_iconst (n := -1) (by decide +kernel) (by decide),
  List.forall_mem_cons.mpr ⟨jo_iret (by decide +kernel) rfl,
  List.forall_mem_cons.mpr ⟨jo_iconst (n := 0) (by decide +kernel) (by decide),
  List.forall_mem_cons.mpr ⟨jo_istore_n (k := 2) (by decide +kernel),
  List.forall_mem_cons.mpr ⟨jo_iload_n (k := 2) (by decide +kernel),
  List.forall_mem_cons.mpr ⟨jo_iload_n (k := 1) (by decide +kernel),
  List.forall_mem_cons.mpr ⟨jo_icmp_ge (off := 26) (by decide +kernel) (by decide),
  List.forall_mem_cons.mpr ⟨jo_aload_n (k := 0) (by decide +kernel),
  List.forall_mem_cons.mpr ⟨jo_getf (by decide +kernel) (jc_at0) (by decide)  jc_in0 jw_125,
  List.forall_mem_cons.mpr ⟨jo_getN (by decide +kernel) (jc_at4) (by decide)  jc_in4 jw_164,
  List.forall_mem_cons.mpr ⟨jo_if_le (off := 16) (by decide +kernel) (by decide),
  List.forall_mem_cons.mpr ⟨jo_aload_n (k := 0) (by decide +kernel),
  List.forall_mem_cons.mpr ⟨jo_getf (by decide +kernel) (jc_at0) (by decide)  jc_in0 jw_125,
  List.forall_mem_cons.mpr ⟨jo_callV (by decide +kernel) (jc_at4) jw_165 jw_166 jw_167 jce_118 (by decide) (by decide),
  List.forall_mem_cons.mpr ⟨jo_iinc (n := 1) (by decide +kernel) (by decide),
  List.forall_mem_cons.mpr ⟨jo_goto (off := -25) (by decide +kernel) (by decide),
  List.forall_mem_cons.mpr ⟨jo_iload_n (k := 2) (by decide +kernel),
  List.forall_mem_cons.mpr ⟨jo_iret (by decide +kernel) rfl,
  fun _ h => absurd h List.not_mem_nil⟩⟩⟩⟩⟩⟩⟩⟩⟩⟩⟩⟩⟩⟩⟩⟩⟩⟩⟩⟩⟩⟩⟩⟩⟩⟩⟩⟩
def jt_11 : List (Nat × jm_I) := jt_11_0
theorem jq_11 : ∀ q ∈ jt_11, jm_Ok 11 q.1 q.2 := jq_11_0
/-! S_frame -/
def jt_12_0 : List (Nat × jm_I) := [(0, jk_aload 0 1), (1, jk_getf 0 2), (4, jk_iload 1 1), (5, jk_callV 115 1 4), (8, jk_astore 3 1), (9, jk_aload 3 1), (10, jk_ifnonnull 15), (13, jk_const (-1) 1), (14, jk_iret), (15, jk_iload 2 1), (16, jk_sw [(0, 44), (1, 49), (2, 54)] 62), (44, jk_aload 3 1), (45, jk_getf 5 2), (48, jk_iret), (49, jk_aload 3 1), (50, jk_getf 5 3), (53, jk_iret), (54, jk_aload 3 1), (55, jk_getf 5 0), (58, jk_getf 6 2), (61, jk_iret), (62, jk_const (-1) 1), (63, jk_iret)]
theorem jq_12_0 : ∀ q ∈ jt_12_0, jm_Ok 12 q.1 q.2 := List.forall_mem_cons.mpr ⟨jo_aload_n (k := 0) (by decide +kernel),
  List.forall_mem_cons.mpr ⟨jo_getf (by decide +kernel) (jc_at0) (by decide)  jc_in0 jw_125,
  List.forall_mem_cons.mpr ⟨jo_iload_n (k := 1) (by decide +kernel),
  List.forall_mem_cons.mpr ⟨jo_callV (by decide +kernel) (jc_at4) jw_168 jw_169 jw_170 jce_115 (by decide) (by decide),
  List.forall_mem_cons.mpr ⟨jo_astore_n (k := 3) (by decide +kernel),
  List.forall_mem_cons.mpr ⟨jo_aload_n (k := 3) (by decide +kernel),
  List.forall_mem_cons.mpr ⟨jo_ifnonnull (off := 5) (by decide +kernel) (by decide),
  List.forall_mem_cons.mpr ⟨jo_iconst (n := -1) (by decide +kernel) (by decide),
  List.forall_mem_cons.mpr ⟨jo_iret (by decide +kernel) rfl,
  List.forall_mem_cons.mpr ⟨jo_iload_n (k := 2) (by decide +kernel),
  List.forall_mem_cons.mpr ⟨jo_table (dflt := 46) (lo := 0) (hi := 2) (offs := #[28, 33, 38]) (len := 28) (by decide +kernel) (by decide) (by decide +kernel) (by decide),
  List.forall_mem_cons.mpr ⟨jo_aload_n (k := 3) (by decide +kernel),
  List.forall_mem_cons.mpr ⟨jo_getN (by decide +kernel) (jc_at5) (by decide)  jc_in5 jw_171,
  List.forall_mem_cons.mpr ⟨jo_iret (by decide +kernel) rfl,
  List.forall_mem_cons.mpr ⟨jo_aload_n (k := 3) (by decide +kernel),
  List.forall_mem_cons.mpr ⟨jo_getN (by decide +kernel) (jc_at5) (by decide)  jc_in5 jw_172,
  List.forall_mem_cons.mpr ⟨jo_iret (by decide +kernel) rfl,
  List.forall_mem_cons.mpr ⟨jo_aload_n (k := 3) (by decide +kernel),
  List.forall_mem_cons.mpr ⟨jo_getN (by decide +kernel) (jc_at5) (by decide)  jc_in5 jw_173,
  List.forall_mem_cons.mpr ⟨jo_getN (by decide +kernel) (jc_at6) (by decide)  jc_in6 jw_174,
  List.forall_mem_cons.mpr ⟨jo_iret (by decide +kernel) rfl,
  List.forall_mem_cons.mpr ⟨jo_iconst (n := -1) (by decide +kernel) (by decide),
  List.forall_mem_cons.mpr ⟨jo_iret (by decide +kernel) rfl,
  fun _ h => absurd h List.not_mem_nil⟩⟩⟩⟩⟩⟩⟩⟩⟩⟩⟩⟩⟩⟩⟩⟩⟩⟩⟩⟩⟩⟩⟩
def jt_12 : List (Nat × jm_I) := jt_12_0
theorem jq_12 : ∀ q ∈ jt_12, jm_Ok 12 q.1 q.2 := jq_12_0
/-! S_value -/
def jt_13_0 : List (Nat × jm_I) := [(0, jk_aload 0 1), (1, jk_getf 0 2), (4, jk_iload 1 1), (5, jk_callV 115 1 4), (8, jk_astore 4 2), (10, jk_aload 4 2), (12, jk_ifnonnull 19), (15, jk_const 0 1), (16, jk_goto 29), (19, jk_aload 4 2), (21, jk_iload 2 1), (22, jk_callV 84 1 5), (25, jk_iload 3 1), (26, jk_callV 71 1 6), (29, jk_iret)]
theorem jq_13_0 : ∀ q ∈ jt_13_0, jm_Ok 13 q.1 q.2 := List.forall_mem_cons.mpr ⟨jo_aload_n (k := 0) (by decide +kernel),
  List.forall_mem_cons.mpr ⟨jo_getf (by decide +kernel) (jc_at0) (by decide)  jc_in0 jw_125,
  List.forall_mem_cons.mpr ⟨jo_iload_n (k := 1) (by decide +kernel),
  List.forall_mem_cons.mpr ⟨jo_callV (by decide +kernel) (jc_at4) jw_168 jw_169 jw_170 jce_115 (by decide) (by decide),
  List.forall_mem_cons.mpr ⟨jo_astore (by decide +kernel),
  List.forall_mem_cons.mpr ⟨jo_aload (by decide +kernel),
  List.forall_mem_cons.mpr ⟨jo_ifnonnull (off := 7) (by decide +kernel) (by decide),
  List.forall_mem_cons.mpr ⟨jo_iconst (n := 0) (by decide +kernel) (by decide),
  List.forall_mem_cons.mpr ⟨jo_goto (off := 13) (by decide +kernel) (by decide),
  List.forall_mem_cons.mpr ⟨jo_aload (by decide +kernel),
  List.forall_mem_cons.mpr ⟨jo_iload_n (k := 2) (by decide +kernel),
  List.forall_mem_cons.mpr ⟨jo_callV (by decide +kernel) (jc_at5) jw_175 jw_177 jw_178 jce_84 (by decide) (by decide),
  List.forall_mem_cons.mpr ⟨jo_iload_n (k := 3) (by decide +kernel),
  List.forall_mem_cons.mpr ⟨jo_callV (by decide +kernel) (jc_at6) jw_179 jw_181 jw_182 jce_71 (by decide) (by decide),
  List.forall_mem_cons.mpr ⟨jo_iret (by decide +kernel) rfl,
  fun _ h => absurd h List.not_mem_nil⟩⟩⟩⟩⟩⟩⟩⟩⟩⟩⟩⟩⟩⟩⟩
def jt_13 : List (Nat × jm_I) := jt_13_0
theorem jq_13 : ∀ q ∈ jt_13, jm_Ok 13 q.1 q.2 := jq_13_0
/-! S_kind -/
def jt_14_0 : List (Nat × jm_I) := [(0, jk_aload 0 1), (1, jk_getf 0 2), (4, jk_iload 1 1), (5, jk_callV 115 1 4), (8, jk_astore 4 2), (10, jk_aload 4 2), (12, jk_ifnonnull 19), (15, jk_const (-1) 1), (16, jk_goto 29), (19, jk_aload 4 2), (21, jk_iload 2 1), (22, jk_callV 84 1 5), (25, jk_iload 3 1), (26, jk_callV 72 1 6), (29, jk_iret)]
theorem jq_14_0 : ∀ q ∈ jt_14_0, jm_Ok 14 q.1 q.2 := List.forall_mem_cons.mpr ⟨jo_aload_n (k := 0) (by decide +kernel),
  List.forall_mem_cons.mpr ⟨jo_getf (by decide +kernel) (jc_at0) (by decide)  jc_in0 jw_125,
  List.forall_mem_cons.mpr ⟨jo_iload_n (k := 1) (by decide +kernel),
  List.forall_mem_cons.mpr ⟨jo_callV (by decide +kernel) (jc_at4) jw_168 jw_169 jw_170 jce_115 (by decide) (by decide),
  List.forall_mem_cons.mpr ⟨jo_astore (by decide +kernel),
  List.forall_mem_cons.mpr ⟨jo_aload (by decide +kernel),
  List.forall_mem_cons.mpr ⟨jo_ifnonnull (off := 7) (by decide +kernel) (by decide),
  List.forall_mem_cons.mpr ⟨jo_iconst (n := -1) (by decide +kernel) (by decide),
  List.forall_mem_cons.mpr ⟨jo_goto (off := 13) (by decide +kernel) (by decide),
  List.forall_mem_cons.mpr ⟨jo_aload (by decide +kernel),
  List.forall_mem_cons.mpr ⟨jo_iload_n (k := 2) (by decide +kernel),
  List.forall_mem_cons.mpr ⟨jo_callV (by decide +kernel) (jc_at5) jw_175 jw_177 jw_178 jce_84 (by decide) (by decide),
  List.forall_mem_cons.mpr ⟨jo_iload_n (k := 3) (by decide +kernel),
  List.forall_mem_cons.mpr ⟨jo_callV (by decide +kernel) (jc_at6) jw_183 jw_184 jw_185 jce_72 (by decide) (by decide),
  List.forall_mem_cons.mpr ⟨jo_iret (by decide +kernel) rfl,
  fun _ h => absurd h List.not_mem_nil⟩⟩⟩⟩⟩⟩⟩⟩⟩⟩⟩⟩⟩⟩⟩
def jt_14 : List (Nat × jm_I) := jt_14_0
theorem jq_14 : ∀ q ∈ jt_14, jm_Ok 14 q.1 q.2 := jq_14_0
/-! S_row -/
def jt_15_0 : List (Nat × jm_I) := [(0, jk_aload 0 1), (1, jk_getf 0 2), (4, jk_getf 4 3), (7, jk_iload 1 1), (8, jk_iload 2 1), (9, jk_callV 110 2 7), (12, jk_iret)]
theorem jq_15_0 : ∀ q ∈ jt_15_0, jm_Ok 15 q.1 q.2 := List.forall_mem_cons.mpr ⟨jo_aload_n (k := 0) (by decide +kernel),
  List.forall_mem_cons.mpr ⟨jo_getf (by decide +kernel) (jc_at0) (by decide)  jc_in0 jw_125,
  List.forall_mem_cons.mpr ⟨jo_getN (by decide +kernel) (jc_at4) (by decide)  jc_in4 jw_186,
  List.forall_mem_cons.mpr ⟨jo_iload_n (k := 1) (by decide +kernel),
  List.forall_mem_cons.mpr ⟨jo_iload_n (k := 2) (by decide +kernel),
  List.forall_mem_cons.mpr ⟨jo_callV (by decide +kernel) (jc_at7) jw_187 jw_189 jw_190 jce_110 (by decide) (by decide),
  List.forall_mem_cons.mpr ⟨jo_iret (by decide +kernel) rfl,
  fun _ h => absurd h List.not_mem_nil⟩⟩⟩⟩⟩⟩⟩
def jt_15 : List (Nat × jm_I) := jt_15_0
theorem jq_15 : ∀ q ∈ jt_15, jm_Ok 15 q.1 q.2 := jq_15_0
/-! S_trace -/
def jt_16_0 : List (Nat × jm_I) := [(0, jk_aload 0 1), (1, jk_getf 0 2), (4, jk_getf 4 4), (7, jk_iload 1 1), (8, jk_iload 2 1), (9, jk_callV 100 2 8), (12, jk_iret)]
theorem jq_16_0 : ∀ q ∈ jt_16_0, jm_Ok 16 q.1 q.2 := List.forall_mem_cons.mpr ⟨jo_aload_n (k := 0) (by decide +kernel),
  List.forall_mem_cons.mpr ⟨jo_getf (by decide +kernel) (jc_at0) (by decide)  jc_in0 jw_125,
  List.forall_mem_cons.mpr ⟨jo_getN (by decide +kernel) (jc_at4) (by decide)  jc_in4 jw_191,
  List.forall_mem_cons.mpr ⟨jo_iload_n (k := 1) (by decide +kernel),
  List.forall_mem_cons.mpr ⟨jo_iload_n (k := 2) (by decide +kernel),
  List.forall_mem_cons.mpr ⟨jo_callV (by decide +kernel) (jc_at8) jw_192 jw_194 jw_195 jce_100 (by decide) (by decide),
  List.forall_mem_cons.mpr ⟨jo_iret (by decide +kernel) rfl,
  fun _ h => absurd h List.not_mem_nil⟩⟩⟩⟩⟩⟩⟩
def jt_16 : List (Nat × jm_I) := jt_16_0
theorem jq_16 : ∀ q ∈ jt_16, jm_Ok 16 q.1 q.2 := jq_16_0
/-! S_look -/
def jt_17_0 : List (Nat × jm_I) := [(0, jk_iload 1 1), (1, jk_sw [(0, 56), (1, 64), (2, 72), (3, 80), (4, 91), (5, 99), (6, 107), (7, 118), (8, 129), (9, 137)] 145), (56, jk_aload 0 1), (57, jk_getf 0 2), (60, jk_getf 4 9), (63, jk_iret), (64, jk_aload 0 1), (65, jk_getf 0 2), (68, jk_getf 4 10), (71, jk_iret), (72, jk_aload 0 1), (73, jk_getf 0 2), (76, jk_getf 4 8), (79, jk_iret), (80, jk_aload 0 1), (81, jk_getf 0 2), (84, jk_getf 4 4), (87, jk_getf 8 1), (90, jk_iret), (91, jk_aload 0 1), (92, jk_getf 0 2), (95, jk_getf 4 6), (98, jk_iret), (99, jk_aload 0 1), (100, jk_getf 0 2), (103, jk_getf 4 7), (106, jk_iret), (107, jk_aload 0 1), (108, jk_getf 0 2), (111, jk_getf 4 3), (114, jk_getf 7 3), (117, jk_iret), (118, jk_aload 0 1), (119, jk_getf 0 2), (122, jk_getf 4 3), (125, jk_getf 7 4), (128, jk_iret), (129, jk_aload 0 1), (130, jk_getf 0 0), (133, jk_getf 1 1)]
theorem jq_17_0 : ∀ q ∈ jt_17_0, jm_Ok 17 q.1 q.2 := List.forall_mem_cons.mpr ⟨jo_iload_n (k := 1) (by decide +kernel),
  List.forall_mem_cons.mpr ⟨jo_table (dflt := 144) (lo := 0) (hi := 9) (offs := #[55, 63, 71, 79, 90, 98, 106, 117, 128, 136]) (len := 55) (by decide +kernel) (by decide) (by decide +kernel) (by decide),
  List.forall_mem_cons.mpr ⟨jo_aload_n (k := 0) (by decide +kernel),
  List.forall_mem_cons.mpr ⟨jo_getf (by decide +kernel) (jc_at0) (by decide)  jc_in0 jw_125,
  List.forall_mem_cons.mpr ⟨jo_getN (by decide +kernel) (jc_at4) (by decide)  jc_in4 jw_196,
  List.forall_mem_cons.mpr ⟨jo_iret (by decide +kernel) rfl,
  List.forall_mem_cons.mpr ⟨jo_aload_n (k := 0) (by decide +kernel),
  List.forall_mem_cons.mpr ⟨jo_getf (by decide +kernel) (jc_at0) (by decide)  jc_in0 jw_125,
  List.forall_mem_cons.mpr ⟨jo_getN (by decide +kernel) (jc_at4) (by decide)  jc_in4 jw_197,
  List.forall_mem_cons.mpr ⟨jo_iret (by decide +kernel) rfl,
  List.forall_mem_cons.mpr ⟨jo_aload_n (k := 0) (by decide +kernel),
  List.forall_mem_cons.mpr ⟨jo_getf (by decide +kernel) (jc_at0) (by decide)  jc_in0 jw_125,
  List.forall_mem_cons.mpr ⟨jo_getN (by decide +kernel) (jc_at4) (by decide)  jc_in4 jw_198,
  List.forall_mem_cons.mpr ⟨jo_iret (by decide +kernel) rfl,
  List.forall_mem_cons.mpr ⟨jo_aload_n (k := 0) (by decide +kernel),
  List.forall_mem_cons.mpr ⟨jo_getf (by decide +kernel) (jc_at0) (by decide)  jc_in0 jw_125,
  List.forall_mem_cons.mpr ⟨jo_getN (by decide +kernel) (jc_at4) (by decide)  jc_in4 jw_191,
  List.forall_mem_cons.mpr ⟨jo_getN (by decide +kernel) (jc_at8) (by decide)  jc_in8 jw_199,
  List.forall_mem_cons.mpr ⟨jo_iret (by decide +kernel) rfl,
  List.forall_mem_cons.mpr ⟨jo_aload_n (k := 0) (by decide +kernel),
  List.forall_mem_cons.mpr ⟨jo_getf (by decide +kernel) (jc_at0) (by decide)  jc_in0 jw_125,
  List.forall_mem_cons.mpr ⟨jo_getN (by decide +kernel) (jc_at4) (by decide)  jc_in4 jw_164,
  List.forall_mem_cons.mpr ⟨jo_iret (by decide +kernel) rfl,
  List.forall_mem_cons.mpr ⟨jo_aload_n (k := 0) (by decide +kernel),
  List.forall_mem_cons.mpr ⟨jo_getf (by decide +kernel) (jc_at0) (by decide)  jc_in0 jw_125,
  List.forall_mem_cons.mpr ⟨jo_getN (by decide +kernel) (jc_at4) (by decide)  jc_in4 jw_200,
  List.forall_mem_cons.mpr ⟨jo_iret (by decide +kernel) rfl,
  List.forall_mem_cons.mpr ⟨jo_aload_n (k := 0) (by decide +kernel),
  List.forall_mem_cons.mpr ⟨jo_getf (by decide +kernel) (jc_at0) (by decide)  jc_in0 jw_125,
  List.forall_mem_cons.mpr ⟨jo_getN (by decide +kernel) (jc_at4) (by decide)  jc_in4 jw_186,
  List.forall_mem_cons.mpr ⟨jo_getN (by decide +kernel) (jc_at7) (by decide)  jc_in7 jw_201,
  List.forall_mem_cons.mpr ⟨jo_iret (by decide +kernel) rfl,
  List.forall_mem_cons.mpr ⟨jo_aload_n (k := 0) (by decide +kernel),
  List.forall_mem_cons.mpr ⟨jo_getf (by decide +kernel) (jc_at0) (by decide)  jc_in0 jw_125,
  List.forall_mem_cons.mpr ⟨jo_getN (by decide +kernel) (jc_at4) (by decide)  jc_in4 jw_186,
  List.forall_mem_cons.mpr ⟨jo_getN (by decide +kernel) (jc_at7) (by decide)  jc_in7 jw_202,
  List.forall_mem_cons.mpr ⟨jo_iret (by decide +kernel) rfl,
  List.forall_mem_cons.mpr ⟨jo_aload_n (k := 0) (by decide +kernel),
  List.forall_mem_cons.mpr ⟨jo_getf (by decide +kernel) (jc_at0) (by decide)  jc_in0 jw_113,
  List.forall_mem_cons.mpr ⟨jo_getN (by decide +kernel) (jc_at1) (by decide)  jc_in1 jw_203,
  fun _ h => absurd h List.not_mem_nil⟩⟩⟩⟩⟩⟩⟩⟩⟩⟩⟩⟩⟩⟩⟩⟩⟩⟩⟩⟩⟩⟩⟩⟩⟩⟩⟩⟩⟩⟩⟩⟩⟩⟩⟩⟩⟩⟩⟩⟩
def jt_17_1 : List (Nat × jm_I) := [(136, jk_iret), (137, jk_aload 0 1), (138, jk_getf 0 1), (141, jk_getf 3 1), (144, jk_iret), (145, jk_const (-1) 1), (146, jk_iret)]
theorem jq_17_1 : ∀ q ∈ jt_17_1, jm_Ok 17 q.1 q.2 := List.forall_mem_cons.mpr ⟨jo_iret (by decide +kernel) rfl,
  List.forall_mem_cons.mpr ⟨jo_aload_n (k := 0) (by decide +kernel),
  List.forall_mem_cons.mpr ⟨jo_getf (by decide +kernel) (jc_at0) (by decide)  jc_in0 jw_119,
  List.forall_mem_cons.mpr ⟨jo_getN (by decide +kernel) (jc_at3) (by decide)  jc_in3 jw_204,
  List.forall_mem_cons.mpr ⟨jo_iret (by decide +kernel) rfl,
  List.forall_mem_cons.mpr ⟨jo_iconst (n := -1) (by decide +kernel) (by decide),
  List.forall_mem_cons.mpr ⟨jo_iret (by decide +kernel) rfl,
  fun _ h => absurd h List.not_mem_nil⟩⟩⟩⟩⟩⟩⟩
def jt_17 : List (Nat × jm_I) := jt_17_0 ++ (jt_17_1)
theorem jq_17 : ∀ q ∈ jt_17, jm_Ok 17 q.1 q.2 := List.forall_mem_append.mpr ⟨jq_17_0, jq_17_1⟩
/-! S_dropRunIf -/
def jt_18_0 : List (Nat × jm_I) := [(0, jk_iload 1 1), (1, jk_if .eq 11), (4, jk_aload 0 1), (5, jk_getf 0 2), (8, jk_callV 113 0 4), (11, jk_iload 1 1), (12, jk_zret)]
theorem jq_18_0 : ∀ q ∈ jt_18_0, jm_Ok 18 q.1 q.2 := List.forall_mem_cons.mpr ⟨jo_iload_n (k := 1) (by decide +kernel),
  List.forall_mem_cons.mpr ⟨jo_if_eq (off := 10) (by decide +kernel) (by decide),
  List.forall_mem_cons.mpr ⟨jo_aload_n (k := 0) (by decide +kernel),
  List.forall_mem_cons.mpr ⟨jo_getf (by decide +kernel) (jc_at0) (by decide)  jc_in0 jw_125,
  List.forall_mem_cons.mpr ⟨jo_callV (by decide +kernel) (jc_at4) jw_129 jw_130 jw_131 jce_113 (by decide) (by decide),
  List.forall_mem_cons.mpr ⟨jo_iload_n (k := 1) (by decide +kernel),
  List.forall_mem_cons.mpr ⟨jo_zret (by decide +kernel) rfl,
  fun _ h => absurd h List.not_mem_nil⟩⟩⟩⟩⟩⟩⟩
def jt_18 : List (Nat × jm_I) := jt_18_0
theorem jq_18 : ∀ q ∈ jt_18, jm_Ok 18 q.1 q.2 := jq_18_0
/-! M_init -/
def jt_19_0 : List (Nat × jm_I) := [(0, jk_aload 0 1), (1, jk_oinit), (4, jk_aload 0 1), (5, jk_const (8) 2), (7, jk_newi 0), (9, jk_putf 9 2 2), (12, jk_aload 0 1), (13, jk_const (8) 2), (15, jk_newi 0), (17, jk_putf 9 3 2), (20, jk_aload 0 1), (21, jk_const (8) 2), (23, jk_newi 0), (25, jk_putf 9 4 2), (28, jk_aload 0 1), (29, jk_const (8) 2), (31, jk_newi 0), (33, jk_putf 9 5 2), (36, jk_aload 0 1), (37, jk_const (800) 3), (40, jk_newi 0), (42, jk_putf 9 6 2), (45, jk_aload 0 1), (46, jk_const (800) 3), (49, jk_newi 0), (51, jk_putf 9 7 2), (54, jk_aload 0 1), (55, jk_const (8) 2), (57, jk_newi 0), (59, jk_putf 9 8 2), (62, jk_aload 0 1), (63, jk_const (32) 2), (65, jk_newi 0), (67, jk_putf 9 9 2), (70, jk_aload 0 1), (71, jk_const (32) 2), (73, jk_newi 0), (75, jk_putf 9 10 2), (78, jk_aload 0 1), (79, jk_const (32) 2)]
theorem jq_19_0 : ∀ q ∈ jt_19_0, jm_Ok 19 q.1 q.2 := List.forall_mem_cons.mpr ⟨jo_aload_n (k := 0) (by decide +kernel),
  List.forall_mem_cons.mpr ⟨jo_oinit (by decide +kernel) ⟨jw_205, jw_107, jw_oi⟩,
  List.forall_mem_cons.mpr ⟨jo_aload_n (k := 0) (by decide +kernel),
  List.forall_mem_cons.mpr ⟨jo_bipush (n := 8) (by decide +kernel) (by decide),
  List.forall_mem_cons.mpr ⟨jo_newi (atype := .int) (ty := .int) (by decide +kernel) rfl (Or.inl rfl) rfl jw_206,
  List.forall_mem_cons.mpr ⟨jo_putF (by decide +kernel) (jc_at9) (by decide)  jc_ty9 jc_ok9 jc_nm9 jc_in9 jw_207 rfl rfl rfl (ty := .array (.int)) (by decide +kernel) (Or.inr (Or.inr (Or.inr ⟨rfl, _, rfl⟩))),
  List.forall_mem_cons.mpr ⟨jo_aload_n (k := 0) (by decide +kernel),
  List.forall_mem_cons.mpr ⟨jo_bipush (n := 8) (by decide +kernel) (by decide),
  List.forall_mem_cons.mpr ⟨jo_newi (atype := .int) (ty := .int) (by decide +kernel) rfl (Or.inl rfl) rfl jw_206,
  List.forall_mem_cons.mpr ⟨jo_putF (by decide +kernel) (jc_at9) (by decide)  jc_ty9 jc_ok9 jc_nm9 jc_in9 jw_208 rfl rfl rfl (ty := .array (.int)) (by decide +kernel) (Or.inr (Or.inr (Or.inr ⟨rfl, _, rfl⟩))),
  List.forall_mem_cons.mpr ⟨jo_aload_n (k := 0) (by decide +kernel),
  List.forall_mem_cons.mpr ⟨jo_bipush (n := 8) (by decide +kernel) (by decide),
  List.forall_mem_cons.mpr ⟨jo_newi (atype := .int) (ty := .int) (by decide +kernel) rfl (Or.inl rfl) rfl jw_206,
  List.forall_mem_cons.mpr ⟨jo_putF (by decide +kernel) (jc_at9) (by decide)  jc_ty9 jc_ok9 jc_nm9 jc_in9 jw_209 rfl rfl rfl (ty := .array (.int)) (by decide +kernel) (Or.inr (Or.inr (Or.inr ⟨rfl, _, rfl⟩))),
  List.forall_mem_cons.mpr ⟨jo_aload_n (k := 0) (by decide +kernel),
  List.forall_mem_cons.mpr ⟨jo_bipush (n := 8) (by decide +kernel) (by decide),
  List.forall_mem_cons.mpr ⟨jo_newi (atype := .int) (ty := .int) (by decide +kernel) rfl (Or.inl rfl) rfl jw_206,
  List.forall_mem_cons.mpr ⟨jo_putF (by decide +kernel) (jc_at9) (by decide)  jc_ty9 jc_ok9 jc_nm9 jc_in9 jw_210 rfl rfl rfl (ty := .array (.int)) (by decide +kernel) (Or.inr (Or.inr (Or.inr ⟨rfl, _, rfl⟩))),
  List.forall_mem_cons.mpr ⟨jo_aload_n (k := 0) (by decide +kernel),
  List.forall_mem_cons.mpr ⟨jo_sipush (n := 800) (by decide +kernel) (by decide),
  List.forall_mem_cons.mpr ⟨jo_newi (atype := .int) (ty := .int) (by decide +kernel) rfl (Or.inl rfl) rfl jw_206,
  List.forall_mem_cons.mpr ⟨jo_putF (by decide +kernel) (jc_at9) (by decide)  jc_ty9 jc_ok9 jc_nm9 jc_in9 jw_211 rfl rfl rfl (ty := .array (.int)) (by decide +kernel) (Or.inr (Or.inr (Or.inr ⟨rfl, _, rfl⟩))),
  List.forall_mem_cons.mpr ⟨jo_aload_n (k := 0) (by decide +kernel),
  List.forall_mem_cons.mpr ⟨jo_sipush (n := 800) (by decide +kernel) (by decide),
  List.forall_mem_cons.mpr ⟨jo_newi (atype := .int) (ty := .int) (by decide +kernel) rfl (Or.inl rfl) rfl jw_206,
  List.forall_mem_cons.mpr ⟨jo_putF (by decide +kernel) (jc_at9) (by decide)  jc_ty9 jc_ok9 jc_nm9 jc_in9 jw_212 rfl rfl rfl (ty := .array (.int)) (by decide +kernel) (Or.inr (Or.inr (Or.inr ⟨rfl, _, rfl⟩))),
  List.forall_mem_cons.mpr ⟨jo_aload_n (k := 0) (by decide +kernel),
  List.forall_mem_cons.mpr ⟨jo_bipush (n := 8) (by decide +kernel) (by decide),
  List.forall_mem_cons.mpr ⟨jo_newi (atype := .int) (ty := .int) (by decide +kernel) rfl (Or.inl rfl) rfl jw_206,
  List.forall_mem_cons.mpr ⟨jo_putF (by decide +kernel) (jc_at9) (by decide)  jc_ty9 jc_ok9 jc_nm9 jc_in9 jw_213 rfl rfl rfl (ty := .array (.int)) (by decide +kernel) (Or.inr (Or.inr (Or.inr ⟨rfl, _, rfl⟩))),
  List.forall_mem_cons.mpr ⟨jo_aload_n (k := 0) (by decide +kernel),
  List.forall_mem_cons.mpr ⟨jo_bipush (n := 32) (by decide +kernel) (by decide),
  List.forall_mem_cons.mpr ⟨jo_newi (atype := .int) (ty := .int) (by decide +kernel) rfl (Or.inl rfl) rfl jw_206,
  List.forall_mem_cons.mpr ⟨jo_putF (by decide +kernel) (jc_at9) (by decide)  jc_ty9 jc_ok9 jc_nm9 jc_in9 jw_214 rfl rfl rfl (ty := .array (.int)) (by decide +kernel) (Or.inr (Or.inr (Or.inr ⟨rfl, _, rfl⟩))),
  List.forall_mem_cons.mpr ⟨jo_aload_n (k := 0) (by decide +kernel),
  List.forall_mem_cons.mpr ⟨jo_bipush (n := 32) (by decide +kernel) (by decide),
  List.forall_mem_cons.mpr ⟨jo_newi (atype := .int) (ty := .int) (by decide +kernel) rfl (Or.inl rfl) rfl jw_206,
  List.forall_mem_cons.mpr ⟨jo_putF (by decide +kernel) (jc_at9) (by decide)  jc_ty9 jc_ok9 jc_nm9 jc_in9 jw_215 rfl rfl rfl (ty := .array (.int)) (by decide +kernel) (Or.inr (Or.inr (Or.inr ⟨rfl, _, rfl⟩))),
  List.forall_mem_cons.mpr ⟨jo_aload_n (k := 0) (by decide +kernel),
  List.forall_mem_cons.mpr ⟨jo_bipush (n := 32) (by decide +kernel) (by decide),
  fun _ h => absurd h List.not_mem_nil⟩⟩⟩⟩⟩⟩⟩⟩⟩⟩⟩⟩⟩⟩⟩⟩⟩⟩⟩⟩⟩⟩⟩⟩⟩⟩⟩⟩⟩⟩⟩⟩⟩⟩⟩⟩⟩⟩⟩⟩
def jt_19_1 : List (Nat × jm_I) := [(81, jk_newi 0), (83, jk_putf 9 11 2), (86, jk_aload 0 1), (87, jk_const (32) 2), (89, jk_newi 1), (91, jk_putf 9 12 2), (94, jk_aload 0 1), (95, jk_const (32) 2), (97, jk_newi 0), (99, jk_putf 9 13 2), (102, jk_aload 0 1), (103, jk_const (64) 2), (105, jk_newi 0), (107, jk_putf 9 14 2), (110, jk_aload 0 1), (111, jk_const (-1) 1), (112, jk_putf 9 17 0), (115, jk_aload 0 1), (116, jk_const (20) 2), (118, jk_newi 0), (120, jk_putf 9 23 2), (123, jk_aload 0 1), (124, jk_const (20) 2), (126, jk_newi 0), (128, jk_putf 9 24 2), (131, jk_aload 0 1), (132, jk_const (20) 2), (134, jk_newi 0), (136, jk_putf 9 25 2), (139, jk_aload 0 1), (140, jk_const (320) 3), (143, jk_newi 0), (145, jk_putf 9 26 2), (148, jk_aload 0 1), (149, jk_const (320) 3), (152, jk_newi 0), (154, jk_putf 9 27 2), (157, jk_aload 0 1), (158, jk_const (160) 3), (161, jk_newi 0)]
theorem jq_19_1 : ∀ q ∈ jt_19_1, jm_Ok 19 q.1 q.2 := List.forall_mem_cons.mpr ⟨jo_newi (atype := .int) (ty := .int) (by decide +kernel) rfl (Or.inl rfl) rfl jw_206,
  List.forall_mem_cons.mpr ⟨jo_putF (by decide +kernel) (jc_at9) (by decide)  jc_ty9 jc_ok9 jc_nm9 jc_in9 jw_216 rfl rfl rfl (ty := .array (.int)) (by decide +kernel) (Or.inr (Or.inr (Or.inr ⟨rfl, _, rfl⟩))),
  List.forall_mem_cons.mpr ⟨jo_aload_n (k := 0) (by decide +kernel),
  List.forall_mem_cons.mpr ⟨jo_bipush (n := 32) (by decide +kernel) (by decide),
  List.forall_mem_cons.mpr ⟨jo_newi (atype := .boolean) (ty := .boolean) (by decide +kernel) rfl (Or.inr rfl) rfl jw_217,
  List.forall_mem_cons.mpr ⟨jo_putF (by decide +kernel) (jc_at9) (by decide)  jc_ty9 jc_ok9 jc_nm9 jc_in9 jw_218 rfl rfl rfl (ty := .array (.boolean)) (by decide +kernel) (Or.inr (Or.inr (Or.inr ⟨rfl, _, rfl⟩))),
  List.forall_mem_cons.mpr ⟨jo_aload_n (k := 0) (by decide +kernel),
  List.forall_mem_cons.mpr ⟨jo_bipush (n := 32) (by decide +kernel) (by decide),
  List.forall_mem_cons.mpr ⟨jo_newi (atype := .int) (ty := .int) (by decide +kernel) rfl (Or.inl rfl) rfl jw_206,
  List.forall_mem_cons.mpr ⟨jo_putF (by decide +kernel) (jc_at9) (by decide)  jc_ty9 jc_ok9 jc_nm9 jc_in9 jw_219 rfl rfl rfl (ty := .array (.int)) (by decide +kernel) (Or.inr (Or.inr (Or.inr ⟨rfl, _, rfl⟩))),
  List.forall_mem_cons.mpr ⟨jo_aload_n (k := 0) (by decide +kernel),
  List.forall_mem_cons.mpr ⟨jo_bipush (n := 64) (by decide +kernel) (by decide),
  List.forall_mem_cons.mpr ⟨jo_newi (atype := .int) (ty := .int) (by decide +kernel) rfl (Or.inl rfl) rfl jw_206,
  List.forall_mem_cons.mpr ⟨jo_putF (by decide +kernel) (jc_at9) (by decide)  jc_ty9 jc_ok9 jc_nm9 jc_in9 jw_220 rfl rfl rfl (ty := .array (.int)) (by decide +kernel) (Or.inr (Or.inr (Or.inr ⟨rfl, _, rfl⟩))),
  List.forall_mem_cons.mpr ⟨jo_aload_n (k := 0) (by decide +kernel),
  List.forall_mem_cons.mpr ⟨jo_iconst (n := -1) (by decide +kernel) (by decide),
  List.forall_mem_cons.mpr ⟨jo_putf (by decide +kernel) (jc_at9) (by decide)  jc_ty9 jc_ok9 jc_nm9 jc_in9 jw_221 rfl (ty := .int) (by decide +kernel) (Or.inl ⟨rfl, rfl⟩),
  List.forall_mem_cons.mpr ⟨jo_aload_n (k := 0) (by decide +kernel),
  List.forall_mem_cons.mpr ⟨jo_bipush (n := 20) (by decide +kernel) (by decide),
  List.forall_mem_cons.mpr ⟨jo_newi (atype := .int) (ty := .int) (by decide +kernel) rfl (Or.inl rfl) rfl jw_206,
  List.forall_mem_cons.mpr ⟨jo_putF (by decide +kernel) (jc_at9) (by decide)  jc_ty9 jc_ok9 jc_nm9 jc_in9 jw_222 rfl rfl rfl (ty := .array (.int)) (by decide +kernel) (Or.inr (Or.inr (Or.inr ⟨rfl, _, rfl⟩))),
  List.forall_mem_cons.mpr ⟨jo_aload_n (k := 0) (by decide +kernel),
  List.forall_mem_cons.mpr ⟨jo_bipush (n := 20) (by decide +kernel) (by decide),
  List.forall_mem_cons.mpr ⟨jo_newi (atype := .int) (ty := .int) (by decide +kernel) rfl (Or.inl rfl) rfl jw_206,
  List.forall_mem_cons.mpr ⟨jo_putF (by decide +kernel) (jc_at9) (by decide)  jc_ty9 jc_ok9 jc_nm9 jc_in9 jw_223 rfl rfl rfl (ty := .array (.int)) (by decide +kernel) (Or.inr (Or.inr (Or.inr ⟨rfl, _, rfl⟩))),
  List.forall_mem_cons.mpr ⟨jo_aload_n (k := 0) (by decide +kernel),
  List.forall_mem_cons.mpr ⟨jo_bipush (n := 20) (by decide +kernel) (by decide),
  List.forall_mem_cons.mpr ⟨jo_newi (atype := .int) (ty := .int) (by decide +kernel) rfl (Or.inl rfl) rfl jw_206,
  List.forall_mem_cons.mpr ⟨jo_putF (by decide +kernel) (jc_at9) (by decide)  jc_ty9 jc_ok9 jc_nm9 jc_in9 jw_224 rfl rfl rfl (ty := .array (.int)) (by decide +kernel) (Or.inr (Or.inr (Or.inr ⟨rfl, _, rfl⟩))),
  List.forall_mem_cons.mpr ⟨jo_aload_n (k := 0) (by decide +kernel),
  List.forall_mem_cons.mpr ⟨jo_sipush (n := 320) (by decide +kernel) (by decide),
  List.forall_mem_cons.mpr ⟨jo_newi (atype := .int) (ty := .int) (by decide +kernel) rfl (Or.inl rfl) rfl jw_206,
  List.forall_mem_cons.mpr ⟨jo_putF (by decide +kernel) (jc_at9) (by decide)  jc_ty9 jc_ok9 jc_nm9 jc_in9 jw_225 rfl rfl rfl (ty := .array (.int)) (by decide +kernel) (Or.inr (Or.inr (Or.inr ⟨rfl, _, rfl⟩))),
  List.forall_mem_cons.mpr ⟨jo_aload_n (k := 0) (by decide +kernel),
  List.forall_mem_cons.mpr ⟨jo_sipush (n := 320) (by decide +kernel) (by decide),
  List.forall_mem_cons.mpr ⟨jo_newi (atype := .int) (ty := .int) (by decide +kernel) rfl (Or.inl rfl) rfl jw_206,
  List.forall_mem_cons.mpr ⟨jo_putF (by decide +kernel) (jc_at9) (by decide)  jc_ty9 jc_ok9 jc_nm9 jc_in9 jw_226 rfl rfl rfl (ty := .array (.int)) (by decide +kernel) (Or.inr (Or.inr (Or.inr ⟨rfl, _, rfl⟩))),
  List.forall_mem_cons.mpr ⟨jo_aload_n (k := 0) (by decide +kernel),
  List.forall_mem_cons.mpr ⟨jo_sipush (n := 160) (by decide +kernel) (by decide),
  List.forall_mem_cons.mpr ⟨jo_newi (atype := .int) (ty := .int) (by decide +kernel) rfl (Or.inl rfl) rfl jw_206,
  fun _ h => absurd h List.not_mem_nil⟩⟩⟩⟩⟩⟩⟩⟩⟩⟩⟩⟩⟩⟩⟩⟩⟩⟩⟩⟩⟩⟩⟩⟩⟩⟩⟩⟩⟩⟩⟩⟩⟩⟩⟩⟩⟩⟩⟩⟩
def jt_19_2 : List (Nat × jm_I) := [(163, jk_putf 9 28 2), (166, jk_aload 0 1), (167, jk_const (160) 3), (170, jk_newi 0), (172, jk_putf 9 29 2), (175, jk_aload 0 1), (176, jk_const (501) 3), (179, jk_newi 0), (181, jk_putf 9 32 2), (184, jk_aload 0 1), (185, jk_const (501) 3), (188, jk_newi 0), (190, jk_putf 9 33 2), (193, jk_aload 0 1), (194, jk_const (1024) 3), (197, jk_newi 0), (199, jk_putf 9 34 2), (202, jk_aload 0 1), (203, jk_const (320) 3), (206, jk_newi 0), (208, jk_putf 9 35 2), (211, jk_ret)]
theorem jq_19_2 : ∀ q ∈ jt_19_2, jm_Ok 19 q.1 q.2 := List.forall_mem_cons.mpr ⟨jo_putF (by decide +kernel) (jc_at9) (by decide)  jc_ty9 jc_ok9 jc_nm9 jc_in9 jw_227 rfl rfl rfl (ty := .array (.int)) (by decide +kernel) (Or.inr (Or.inr (Or.inr ⟨rfl, _, rfl⟩))),
  List.forall_mem_cons.mpr ⟨jo_aload_n (k := 0) (by decide +kernel),
  List.forall_mem_cons.mpr ⟨jo_sipush (n := 160) (by decide +kernel) (by decide),
  List.forall_mem_cons.mpr ⟨jo_newi (atype := .int) (ty := .int) (by decide +kernel) rfl (Or.inl rfl) rfl jw_206,
  List.forall_mem_cons.mpr ⟨jo_putF (by decide +kernel) (jc_at9) (by decide)  jc_ty9 jc_ok9 jc_nm9 jc_in9 jw_228 rfl rfl rfl (ty := .array (.int)) (by decide +kernel) (Or.inr (Or.inr (Or.inr ⟨rfl, _, rfl⟩))),
  List.forall_mem_cons.mpr ⟨jo_aload_n (k := 0) (by decide +kernel),
  List.forall_mem_cons.mpr ⟨jo_sipush (n := 501) (by decide +kernel) (by decide),
  List.forall_mem_cons.mpr ⟨jo_newi (atype := .int) (ty := .int) (by decide +kernel) rfl (Or.inl rfl) rfl jw_206,
  List.forall_mem_cons.mpr ⟨jo_putF (by decide +kernel) (jc_at9) (by decide)  jc_ty9 jc_ok9 jc_nm9 jc_in9 jw_229 rfl rfl rfl (ty := .array (.int)) (by decide +kernel) (Or.inr (Or.inr (Or.inr ⟨rfl, _, rfl⟩))),
  List.forall_mem_cons.mpr ⟨jo_aload_n (k := 0) (by decide +kernel),
  List.forall_mem_cons.mpr ⟨jo_sipush (n := 501) (by decide +kernel) (by decide),
  List.forall_mem_cons.mpr ⟨jo_newi (atype := .int) (ty := .int) (by decide +kernel) rfl (Or.inl rfl) rfl jw_206,
  List.forall_mem_cons.mpr ⟨jo_putF (by decide +kernel) (jc_at9) (by decide)  jc_ty9 jc_ok9 jc_nm9 jc_in9 jw_230 rfl rfl rfl (ty := .array (.int)) (by decide +kernel) (Or.inr (Or.inr (Or.inr ⟨rfl, _, rfl⟩))),
  List.forall_mem_cons.mpr ⟨jo_aload_n (k := 0) (by decide +kernel),
  List.forall_mem_cons.mpr ⟨jo_sipush (n := 1024) (by decide +kernel) (by decide),
  List.forall_mem_cons.mpr ⟨jo_newi (atype := .int) (ty := .int) (by decide +kernel) rfl (Or.inl rfl) rfl jw_206,
  List.forall_mem_cons.mpr ⟨jo_putF (by decide +kernel) (jc_at9) (by decide)  jc_ty9 jc_ok9 jc_nm9 jc_in9 jw_231 rfl rfl rfl (ty := .array (.int)) (by decide +kernel) (Or.inr (Or.inr (Or.inr ⟨rfl, _, rfl⟩))),
  List.forall_mem_cons.mpr ⟨jo_aload_n (k := 0) (by decide +kernel),
  List.forall_mem_cons.mpr ⟨jo_sipush (n := 320) (by decide +kernel) (by decide),
  List.forall_mem_cons.mpr ⟨jo_newi (atype := .int) (ty := .int) (by decide +kernel) rfl (Or.inl rfl) rfl jw_206,
  List.forall_mem_cons.mpr ⟨jo_putF (by decide +kernel) (jc_at9) (by decide)  jc_ty9 jc_ok9 jc_nm9 jc_in9 jw_232 rfl rfl rfl (ty := .array (.int)) (by decide +kernel) (Or.inr (Or.inr (Or.inr ⟨rfl, _, rfl⟩))),
  List.forall_mem_cons.mpr ⟨jo_ret (by decide +kernel) rfl,
  fun _ h => absurd h List.not_mem_nil⟩⟩⟩⟩⟩⟩⟩⟩⟩⟩⟩⟩⟩⟩⟩⟩⟩⟩⟩⟩⟩⟩
def jt_19 : List (Nat × jm_I) := jt_19_0 ++ (jt_19_1 ++ (jt_19_2))
theorem jq_19 : ∀ q ∈ jt_19, jm_Ok 19 q.1 q.2 := List.forall_mem_append.mpr ⟨jq_19_0, List.forall_mem_append.mpr ⟨jq_19_1, jq_19_2⟩⟩
/-! M_isFunction -/
def jt_20_0 : List (Nat × jm_I) := [(0, jk_iload 1 1), (1, jk_if .lt 16), (4, jk_iload 1 1), (5, jk_aload 0 1), (6, jk_getf 9 1), (9, jk_icmp .ge 16), (12, jk_const 1 1), (13, jk_goto 17), (16, jk_const 0 1), (17, jk_zret)]
theorem jq_20_0 : ∀ q ∈ jt_20_0, jm_Ok 20 q.1 q.2 := List.forall_mem_cons.mpr ⟨jo_iload_n (k := 1) (by decide +kernel),
  List.forall_mem_cons.mpr ⟨jo_if_lt (off := 15) (by decide +kernel) (by decide),
  List.forall_mem_cons.mpr ⟨jo_iload_n (k := 1) (by decide +kernel),
  List.forall_mem_cons.mpr ⟨jo_aload_n (k := 0) (by decide +kernel),
  List.forall_mem_cons.mpr ⟨jo_getf (by decide +kernel) (jc_at9) (by decide)  jc_in9 jw_233,
  List.forall_mem_cons.mpr ⟨jo_icmp_ge (off := 7) (by decide +kernel) (by decide),
  List.forall_mem_cons.mpr ⟨jo_iconst (n := 1) (by decide +kernel) (by decide),
  List.forall_mem_cons.mpr ⟨jo_goto (off := 4) (by decide +kernel) (by decide),
  List.forall_mem_cons.mpr ⟨jo_iconst (n := 0) (by decide +kernel) (by decide),
  List.forall_mem_cons.mpr ⟨jo_zret (by decide +kernel) rfl,
  fun _ h => absurd h List.not_mem_nil⟩⟩⟩⟩⟩⟩⟩⟩⟩⟩
def jt_20 : List (Nat × jm_I) := jt_20_0
theorem jq_20 : ∀ q ∈ jt_20, jm_Ok 20 q.1 q.2 := jq_20_0
/-! M_stop -/
def jt_21_0 : List (Nat × jm_I) := [(0, jk_aload 0 1), (1, jk_const 0 1), (2, jk_putf 9 16 1), (5, jk_aload 0 1), (6, jk_const 0 1), (7, jk_putf 9 22 0), (10, jk_ret)]
theorem jq_21_0 : ∀ q ∈ jt_21_0, jm_Ok 21 q.1 q.2 := List.forall_mem_cons.mpr ⟨jo_aload_n (k := 0) (by decide +kernel),
  List.forall_mem_cons.mpr ⟨jo_iconst (n := 0) (by decide +kernel) (by decide),
  List.forall_mem_cons.mpr ⟨jo_putf (by decide +kernel) (jc_at9) (by decide)  jc_ty9 jc_ok9 jc_nm9 jc_in9 jw_234 rfl (ty := .boolean) (by decide +kernel) (Or.inr (Or.inl ⟨rfl, rfl⟩)),
  List.forall_mem_cons.mpr ⟨jo_aload_n (k := 0) (by decide +kernel),
  List.forall_mem_cons.mpr ⟨jo_iconst (n := 0) (by decide +kernel) (by decide),
  List.forall_mem_cons.mpr ⟨jo_putf (by decide +kernel) (jc_at9) (by decide)  jc_ty9 jc_ok9 jc_nm9 jc_in9 jw_235 rfl (ty := .int) (by decide +kernel) (Or.inl ⟨rfl, rfl⟩),
  List.forall_mem_cons.mpr ⟨jo_ret (by decide +kernel) rfl,
  fun _ h => absurd h List.not_mem_nil⟩⟩⟩⟩⟩⟩⟩
def jt_21 : List (Nat × jm_I) := jt_21_0
theorem jq_21 : ∀ q ∈ jt_21, jm_Ok 21 q.1 q.2 := jq_21_0
