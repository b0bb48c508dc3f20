/-! M_row -/
def jt_61_0 : List (Nat × jm_I) := [(0, jk_aload 0 1), (1, jk_const 0 1), (2, jk_putf 9 0 0), (5, jk_aload 0 1), (6, jk_getf 9 16), (9, jk_if .eq 40), (12, jk_iload 1 1), (13, jk_if .lt 40), (16, jk_iload 1 1), (17, jk_aload 0 1), (18, jk_getf 9 30), (21, jk_icmp .ge 40), (24, jk_iload 2 1), (25, jk_if .lt 40), (28, jk_iload 2 1), (29, jk_aload 0 1), (30, jk_getf 9 33), (33, jk_iload 1 1), (34, jk_const 1 1), (35, jb_iadd), (36, jk_ald 0), (37, jk_icmp .lt 42), (40, jk_const 0 1), (41, jk_iret), (42, jk_aload 0 1), (43, jk_getf 9 34), (46, jk_aload 0 1), (47, jk_getf 9 32), (50, jk_iload 1 1), (51, jk_const 1 1), (52, jb_iadd), (53, jk_ald 0), (54, jk_iload 2 1), (55, jb_iadd), (56, jk_ald 0), (57, jk_iret)]
theorem jq_61_0 : ∀ q ∈ jt_61_0, jm_Ok 61 q.1 q.2 := List.forall_mem_cons.mpr ⟨jo_aload_n (k := 0) (by decide +kernel),
  List.forall_mem_cons.mpr ⟨jo_iconst (n := 0) (by decide +kernel) (by decide),
  List.forall_mem_cons.mpr ⟨jo_putf (by decide +kernel) (jc_at9) (by decide)  jc_ty9 jc_ok9 jc_nm9 jc_in9 jw_236 rfl (ty := .int) (by decide +kernel) (Or.inl ⟨rfl, rfl⟩),
  List.forall_mem_cons.mpr ⟨jo_aload_n (k := 0) (by decide +kernel),
  List.forall_mem_cons.mpr ⟨jo_getf (by decide +kernel) (jc_at9) (by decide)  jc_in9 jw_234,
  List.forall_mem_cons.mpr ⟨jo_if_eq (off := 31) (by decide +kernel) (by decide),
  List.forall_mem_cons.mpr ⟨jo_iload_n (k := 1) (by decide +kernel),
  List.forall_mem_cons.mpr ⟨jo_if_lt (off := 27) (by decide +kernel) (by decide),
  List.forall_mem_cons.mpr ⟨jo_iload_n (k := 1) (by decide +kernel),
  List.forall_mem_cons.mpr ⟨jo_aload_n (k := 0) (by decide +kernel),
  List.forall_mem_cons.mpr ⟨jo_getf (by decide +kernel) (jc_at9) (by decide)  jc_in9 jw_249,
  List.forall_mem_cons.mpr ⟨jo_icmp_ge (off := 19) (by decide +kernel) (by decide),
  List.forall_mem_cons.mpr ⟨jo_iload_n (k := 2) (by decide +kernel),
  List.forall_mem_cons.mpr ⟨jo_if_lt (off := 15) (by decide +kernel) (by decide),
  List.forall_mem_cons.mpr ⟨jo_iload_n (k := 2) (by decide +kernel),
  List.forall_mem_cons.mpr ⟨jo_aload_n (k := 0) (by decide +kernel),
  List.forall_mem_cons.mpr ⟨jo_getf (by decide +kernel) (jc_at9) (by decide)  jc_in9 jw_230,
  List.forall_mem_cons.mpr ⟨jo_iload_n (k := 1) (by decide +kernel),
  List.forall_mem_cons.mpr ⟨jo_iconst (n := 1) (by decide +kernel) (by decide),
  List.forall_mem_cons.mpr ⟨jo_iadd (by decide +kernel),
  List.forall_mem_cons.mpr ⟨jo_iald (by decide +kernel) rfl,
  List.forall_mem_cons.mpr ⟨jo_icmp_lt (off := 5) (by decide +kernel) (by decide),
  List.forall_mem_cons.mpr ⟨jo_iconst (n := 0) (by decide +kernel) (by decide),
  List.forall_mem_cons.mpr ⟨jo_iret (by decide +kernel) rfl,
  List.forall_mem_cons.mpr ⟨jo_aload_n (k := 0) (by decide +kernel),
  List.forall_mem_cons.mpr ⟨jo_getf (by decide +kernel) (jc_at9) (by decide)  jc_in9 jw_231,
  List.forall_mem_cons.mpr ⟨jo_aload_n (k := 0) (by decide +kernel),
  List.forall_mem_cons.mpr ⟨jo_getf (by decide +kernel) (jc_at9) (by decide)  jc_in9 jw_229,
  List.forall_mem_cons.mpr ⟨jo_iload_n (k := 1) (by decide +kernel),
  List.forall_mem_cons.mpr ⟨jo_iconst (n := 1) (by decide +kernel) (by decide),
  List.forall_mem_cons.mpr ⟨jo_iadd (by decide +kernel),
  List.forall_mem_cons.mpr ⟨jo_iald (by decide +kernel) rfl,
  List.forall_mem_cons.mpr ⟨jo_iload_n (k := 2) (by decide +kernel),
  List.forall_mem_cons.mpr ⟨jo_iadd (by decide +kernel),
  List.forall_mem_cons.mpr ⟨jo_iald (by decide +kernel) rfl,
  List.forall_mem_cons.mpr ⟨jo_iret (by decide +kernel) rfl,
  fun _ h => absurd h List.not_mem_nil⟩⟩⟩⟩⟩⟩⟩⟩⟩⟩⟩⟩⟩⟩⟩⟩⟩⟩⟩⟩⟩⟩⟩⟩⟩⟩⟩⟩⟩⟩⟩⟩⟩⟩⟩⟩
def jt_61 : List (Nat × jm_I) := jt_61_0
theorem jq_61 : ∀ q ∈ jt_61, jm_Ok 61 q.1 q.2 := jq_61_0
/-! M_trace -/
def jt_62_0 : List (Nat × jm_I) := [(0, jk_aload 0 1), (1, jk_const 0 1), (2, jk_putf 9 0 0), (5, jk_aload 0 1), (6, jk_getf 9 16), (9, jk_if .eq 39), (12, jk_iload 1 1), (13, jk_if .lt 39), (16, jk_iload 1 1), (17, jk_aload 0 1), (18, jk_getf 9 20), (21, jk_icmp .ge 39), (24, jk_iload 1 1), (25, jk_const (63) 2), (27, jk_icmp .gt 39), (30, jk_iload 2 1), (31, jk_if .lt 39), (34, jk_iload 2 1), (35, jk_const 4 1), (36, jk_icmp .le 41), (39, jk_const 0 1), (40, jk_iret), (41, jk_aload 0 1), (42, jk_getf 9 35), (45, jk_const 5 1), (46, jk_iload 1 1), (47, jb_imul), (48, jk_iload 2 1), (49, jb_iadd), (50, jk_ald 0), (51, jk_iret)]
theorem jq_62_0 : ∀ q ∈ jt_62_0, jm_Ok 62 q.1 q.2 := List.forall_mem_cons.mpr ⟨jo_aload_n (k := 0) (by decide +kernel),
  List.forall_mem_cons.mpr ⟨jo_iconst (n := 0) (by decide +kernel) (by decide),
  List.forall_mem_cons.mpr ⟨jo_putf (by decide +kernel) (jc_at9) (by decide)  jc_ty9 jc_ok9 jc_nm9 jc_in9 jw_236 rfl (ty := .int) (by decide +kernel) (Or.inl ⟨rfl, rfl⟩),
  List.forall_mem_cons.mpr ⟨jo_aload_n (k := 0) (by decide +kernel),
  List.forall_mem_cons.mpr ⟨jo_getf (by decide +kernel) (jc_at9) (by decide)  jc_in9 jw_234,
  List.forall_mem_cons.mpr ⟨jo_if_eq (off := 30) (by decide +kernel) (by decide),
  List.forall_mem_cons.mpr ⟨jo_iload_n (k := 1) (by decide +kernel),
  List.forall_mem_cons.mpr ⟨jo_if_lt (off := 26) (by decide +kernel) (by decide),
  List.forall_mem_cons.mpr ⟨jo_iload_n (k := 1) (by decide +kernel),
  List.forall_mem_cons.mpr ⟨jo_aload_n (k := 0) (by decide +kernel),
  List.forall_mem_cons.mpr ⟨jo_getf (by decide +kernel) (jc_at9) (by decide)  jc_in9 jw_248,
  List.forall_mem_cons.mpr ⟨jo_icmp_ge (off := 18) (by decide +kernel) (by decide),
  List.forall_mem_cons.mpr ⟨jo_iload_n (k := 1) (by decide +kernel),
  List.forall_mem_cons.mpr ⟨jo_bipush (n := 63) (by decide +kernel) (by decide),
  List.forall_mem_cons.mpr ⟨jo_icmp_gt (off := 12) (by decide +kernel) (by decide),
  List.forall_mem_cons.mpr ⟨jo_iload_n (k := 2) (by decide +kernel),
  List.forall_mem_cons.mpr ⟨jo_if_lt (off := 8) (by decide +kernel) (by decide),
  List.forall_mem_cons.mpr ⟨jo_iload_n (k := 2) (by decide +kernel),
  List.forall_mem_cons.mpr ⟨jo_iconst (n := 4) (by decide +kernel) (by decide),
  List.forall_mem_cons.mpr ⟨jo_icmp_le (off := 5) (by decide +kernel) (by decide),
  List.forall_mem_cons.mpr ⟨jo_iconst (n := 0) (by decide +kernel) (by decide),
  List.forall_mem_cons.mpr ⟨jo_iret (by decide +kernel) rfl,
  List.forall_mem_cons.mpr ⟨jo_aload_n (k := 0) (by decide +kernel),
  List.forall_mem_cons.mpr ⟨jo_getf (by decide +kernel) (jc_at9) (by decide)  jc_in9 jw_232,
  List.forall_mem_cons.mpr ⟨jo_iconst (n := 5) (by decide +kernel) (by decide),
  List.forall_mem_cons.mpr ⟨jo_iload_n (k := 1) (by decide +kernel),
  List.forall_mem_cons.mpr ⟨jo_imul (by decide +kernel),
  List.forall_mem_cons.mpr ⟨jo_iload_n (k := 2) (by decide +kernel),
  List.forall_mem_cons.mpr ⟨jo_iadd (by decide +kernel),
  List.forall_mem_cons.mpr ⟨jo_iald (by decide +kernel) rfl,
  List.forall_mem_cons.mpr ⟨jo_iret (by decide +kernel) rfl,
  fun _ h => absurd h List.not_mem_nil⟩⟩⟩⟩⟩⟩⟩⟩⟩⟩⟩⟩⟩⟩⟩⟩⟩⟩⟩⟩⟩⟩⟩⟩⟩⟩⟩⟩⟩⟩⟩
def jt_62 : List (Nat × jm_I) := jt_62_0
theorem jq_62 : ∀ q ∈ jt_62, jm_Ok 62 q.1 q.2 := jq_62_0
/-! M_look -/
def jt_63_0 : List (Nat × jm_I) := [(0, jk_aload 0 1), (1, jk_const 0 1), (2, jk_putf 9 0 0), (5, jk_iload 1 1), (6, jk_const (8) 2), (8, jk_icmp .ne 16), (11, jk_aload 0 1), (12, jk_getf 9 1), (15, jk_iret), (16, jk_iload 1 1), (17, jk_const (9) 2), (19, jk_icmp .ne 27), (22, jk_aload 0 1), (23, jk_getf 9 15), (26, jk_iret), (27, jk_aload 0 1), (28, jk_getf 9 16), (31, jk_if .ne 50), (34, jk_iload 1 1), (35, jk_if .le 48), (38, jk_iload 1 1), (39, jk_const (8) 2), (41, jk_icmp .ge 48), (44, jk_const 0 1), (45, jk_goto 49), (48, jk_const (-1) 1), (49, jk_iret), (50, jk_iload 1 1), (51, jk_sw [(0, 96), (1, 101), (2, 118), (3, 123), (4, 128), (5, 133), (6, 138), (7, 143)] 148), (96, jk_aload 0 1), (97, jk_getf 9 17), (100, jk_iret), (101, jk_aload 0 1), (102, jk_getf 9 17), (105, jk_const (-1) 1), (106, jk_icmp .ne 113), (109, jk_const 0 1), (110, jk_goto 117), (113, jk_aload 0 1), (114, jk_getf 9 18)]
theorem jq_63_0 : ∀ q ∈ jt_63_0, jm_Ok 63 q.1 q.2 := List.forall_mem_cons.mpr ⟨jo_aload_n (k := 0) (by decide +kernel),
  List.forall_mem_cons.mpr ⟨jo_iconst (n := 0) (by decide +kernel) (by decide),
  List.forall_mem_cons.mpr ⟨jo_putf (by decide +kernel) (jc_at9) (by decide)  jc_ty9 jc_ok9 jc_nm9 jc_in9 jw_236 rfl (ty := .int) (by decide +kernel) (Or.inl ⟨rfl, rfl⟩),
  List.forall_mem_cons.mpr ⟨jo_iload_n (k := 1) (by decide +kernel),
  List.forall_mem_cons.mpr ⟨jo_bipush (n := 8) (by decide +kernel) (by decide),
  List.forall_mem_cons.mpr ⟨jo_icmp_ne (off := 8) (by decide +kernel) (by decide),
  List.forall_mem_cons.mpr ⟨jo_aload_n (k := 0) (by decide +kernel),
  List.forall_mem_cons.mpr ⟨jo_getf (by decide +kernel) (jc_at9) (by decide)  jc_in9 jw_233,
  List.forall_mem_cons.mpr ⟨jo_iret (by decide +kernel) rfl,
  List.forall_mem_cons.mpr ⟨jo_iload_n (k := 1) (by decide +kernel),
  List.forall_mem_cons.mpr ⟨jo_bipush (n := 9) (by decide +kernel) (by decide),
  List.forall_mem_cons.mpr ⟨jo_icmp_ne (off := 8) (by decide +kernel) (by decide),
  List.forall_mem_cons.mpr ⟨jo_aload_n (k := 0) (by decide +kernel),
  List.forall_mem_cons.mpr ⟨jo_getf (by decide +kernel) (jc_at9) (by decide)  jc_in9 jw_245,
  List.forall_mem_cons.mpr ⟨jo_iret (by decide +kernel) rfl,
  List.forall_mem_cons.mpr ⟨jo_aload_n (k := 0) (by decide +kernel),
  List.forall_mem_cons.mpr ⟨jo_getf (by decide +kernel) (jc_at9) (by decide)  jc_in9 jw_234,
  List.forall_mem_cons.mpr ⟨jo_if_ne (off := 19) (by decide +kernel) (by decide),
  List.forall_mem_cons.mpr ⟨jo_iload_n (k := 1) (by decide +kernel),
  List.forall_mem_cons.mpr ⟨jo_if_le (off := 13) (by decide +kernel) (by decide),
  List.forall_mem_cons.mpr ⟨jo_iload_n (k := 1) (by decide +kernel),
  List.forall_mem_cons.mpr ⟨jo_bipush (n := 8) (by decide +kernel) (by decide),
  List.forall_mem_cons.mpr ⟨jo_icmp_ge (off := 7) (by decide +kernel) (by decide),
  List.forall_mem_cons.mpr ⟨jo_iconst (n := 0) (by decide +kernel) (by decide),
  List.forall_mem_cons.mpr ⟨jo_goto (off := 4) (by decide +kernel) (by decide),
  List.forall_mem_cons.mpr ⟨jo_iconst (n := -1) (by decide +kernel) (by decide),
  List.forall_mem_cons.mpr ⟨jo_iret (by decide +kernel) rfl,
  List.forall_mem_cons.mpr ⟨jo_iload_n (k := 1) (by decide +kernel),
  List.forall_mem_cons.mpr ⟨jo_table (dflt := 97) (lo := 0) (hi := 7) (offs := #[45, 50, 67, 72, 77, 82, 87, 92]) (len := 45) (by decide +kernel) (by decide) (by decide +kernel) (by decide),
  List.forall_mem_cons.mpr ⟨jo_aload_n (k := 0) (by decide +kernel),
  List.forall_mem_cons.mpr ⟨jo_getf (by decide +kernel) (jc_at9) (by decide)  jc_in9 jw_221,
  List.forall_mem_cons.mpr ⟨jo_iret (by decide +kernel) rfl,
  List.forall_mem_cons.mpr ⟨jo_aload_n (k := 0) (by decide +kernel),
  List.forall_mem_cons.mpr ⟨jo_getf (by decide +kernel) (jc_at9) (by decide)  jc_in9 jw_221,
  List.forall_mem_cons.mpr ⟨jo_iconst (n := -1) (by decide +kernel) (by decide),
  List.forall_mem_cons.mpr ⟨jo_icmp_ne (off := 7) (by decide +kernel) (by decide),
  List.forall_mem_cons.mpr ⟨jo_iconst (n := 0) (by decide +kernel) (by decide),
  List.forall_mem_cons.mpr ⟨jo_goto (off := 7) (by decide +kernel) (by decide),
  List.forall_mem_cons.mpr ⟨jo_aload_n (k := 0) (by decide +kernel),
  List.forall_mem_cons.mpr ⟨jo_getf (by decide +kernel) (jc_at9) (by decide)  jc_in9 jw_246,
  fun _ h => absurd h List.not_mem_nil⟩⟩⟩⟩⟩⟩⟩⟩⟩⟩⟩⟩⟩⟩⟩⟩⟩⟩⟩⟩⟩⟩⟩⟩⟩⟩⟩⟩⟩⟩⟩⟩⟩⟩⟩⟩⟩⟩⟩⟩
def jt_63_1 : List (Nat × jm_I) := [(117, jk_iret), (118, jk_aload 0 1), (119, jk_getf 9 19), (122, jk_iret), (123, jk_aload 0 1), (124, jk_getf 9 20), (127, jk_iret), (128, jk_aload 0 1), (129, jk_getf 9 22), (132, jk_iret), (133, jk_aload 0 1), (134, jk_getf 9 21), (137, jk_iret), (138, jk_aload 0 1), (139, jk_getf 9 30), (142, jk_iret), (143, jk_aload 0 1), (144, jk_getf 9 31), (147, jk_iret), (148, jk_const (-1) 1), (149, jk_iret)]
theorem jq_63_1 : ∀ q ∈ jt_63_1, jm_Ok 63 q.1 q.2 := List.forall_mem_cons.mpr ⟨jo_iret (by decide +kernel) rfl,
  List.forall_mem_cons.mpr ⟨jo_aload_n (k := 0) (by decide +kernel),
  List.forall_mem_cons.mpr ⟨jo_getf (by decide +kernel) (jc_at9) (by decide)  jc_in9 jw_247,
  List.forall_mem_cons.mpr ⟨jo_iret (by decide +kernel) rfl,
  List.forall_mem_cons.mpr ⟨jo_aload_n (k := 0) (by decide +kernel),
  List.forall_mem_cons.mpr ⟨jo_getf (by decide +kernel) (jc_at9) (by decide)  jc_in9 jw_248,
  List.forall_mem_cons.mpr ⟨jo_iret (by decide +kernel) rfl,
  List.forall_mem_cons.mpr ⟨jo_aload_n (k := 0) (by decide +kernel),
  List.forall_mem_cons.mpr ⟨jo_getf (by decide +kernel) (jc_at9) (by decide)  jc_in9 jw_235,
  List.forall_mem_cons.mpr ⟨jo_iret (by decide +kernel) rfl,
  List.forall_mem_cons.mpr ⟨jo_aload_n (k := 0) (by decide +kernel),
  List.forall_mem_cons.mpr ⟨jo_getf (by decide +kernel) (jc_at9) (by decide)  jc_in9 jw_254,
  List.forall_mem_cons.mpr ⟨jo_iret (by decide +kernel) rfl,
  List.forall_mem_cons.mpr ⟨jo_aload_n (k := 0) (by decide +kernel),
  List.forall_mem_cons.mpr ⟨jo_getf (by decide +kernel) (jc_at9) (by decide)  jc_in9 jw_249,
  List.forall_mem_cons.mpr ⟨jo_iret (by decide +kernel) rfl,
  List.forall_mem_cons.mpr ⟨jo_aload_n (k := 0) (by decide +kernel),
  List.forall_mem_cons.mpr ⟨jo_getf (by decide +kernel) (jc_at9) (by decide)  jc_in9 jw_250,
  List.forall_mem_cons.mpr ⟨jo_iret (by decide +kernel) rfl,
  List.forall_mem_cons.mpr ⟨jo_iconst (n := -1) (by decide +kernel) (by decide),
  List.forall_mem_cons.mpr ⟨jo_iret (by decide +kernel) rfl,
  fun _ h => absurd h List.not_mem_nil⟩⟩⟩⟩⟩⟩⟩⟩⟩⟩⟩⟩⟩⟩⟩⟩⟩⟩⟩⟩⟩
def jt_63 : List (Nat × jm_I) := jt_63_0 ++ (jt_63_1)
theorem jq_63 : ∀ q ∈ jt_63, jm_Ok 63 q.1 q.2 := List.forall_mem_append.mpr ⟨jq_63_0, jq_63_1⟩
/-! Answers_init -/
def jt_64_0 : List (Nat × jm_I) := [(0, jk_aload 0 1), (1, jk_oinit), (4, jk_aload 0 1), (5, jk_const (64) 2), (7, jk_newi 0), (9, jk_putf 3 0 2), (12, jk_aload 0 1), (13, jk_const 0 1), (14, jk_putf 3 1 0), (17, jk_ret)]
theorem jq_64_0 : ∀ q ∈ jt_64_0, jm_Ok 64 q.1 q.2 := List.forall_mem_cons.mpr ⟨jo_aload_n (k := 0) (by decide +kernel),
  List.forall_mem_cons.mpr ⟨jo_oinit (by decide +kernel) ⟨jw_329, jw_107, jw_oi⟩,
  List.forall_mem_cons.mpr ⟨jo_aload_n (k := 0) (by decide +kernel),
  List.forall_mem_cons.mpr ⟨jo_bipush (n := 64) (by decide +kernel) (by decide),
  List.forall_mem_cons.mpr ⟨jo_newi (atype := .int) (ty := .int) (by decide +kernel) rfl (Or.inl rfl) rfl jw_206,
  List.forall_mem_cons.mpr ⟨jo_putF (by decide +kernel) (jc_at3) (by decide)  jc_ty3 jc_ok3 jc_nm3 jc_in3 jw_330 rfl rfl rfl (ty := .array (.int)) (by decide +kernel) (Or.inr (Or.inr (Or.inr ⟨rfl, _, rfl⟩))),
  List.forall_mem_cons.mpr ⟨jo_aload_n (k := 0) (by decide +kernel),
  List.forall_mem_cons.mpr ⟨jo_iconst (n := 0) (by decide +kernel) (by decide),
  List.forall_mem_cons.mpr ⟨jo_putf (by decide +kernel) (jc_at3) (by decide)  jc_ty3 jc_ok3 jc_nm3 jc_in3 jw_331 rfl (ty := .int) (by decide +kernel) (Or.inl ⟨rfl, rfl⟩),
  List.forall_mem_cons.mpr ⟨jo_ret (by decide +kernel) rfl,
  fun _ h => absurd h List.not_mem_nil⟩⟩⟩⟩⟩⟩⟩⟩⟩⟩
def jt_64 : List (Nat × jm_I) := jt_64_0
theorem jq_64 : ∀ q ∈ jt_64, jm_Ok 64 q.1 q.2 := jq_64_0
/-! Answers_empty -/
def jt_65_0 : List (Nat × jm_I) := [(0, jk_aload 0 1), (1, jk_const 0 1), (2, jk_putf 3 1 0), (5, jk_ret)]
theorem jq_65_0 : ∀ q ∈ jt_65_0, jm_Ok 65 q.1 q.2 := List.forall_mem_cons.mpr ⟨jo_aload_n (k := 0) (by decide +kernel),
  List.forall_mem_cons.mpr ⟨jo_iconst (n := 0) (by decide +kernel) (by decide),
  List.forall_mem_cons.mpr ⟨jo_putf (by decide +kernel) (jc_at3) (by decide)  jc_ty3 jc_ok3 jc_nm3 jc_in3 jw_331 rfl (ty := .int) (by decide +kernel) (Or.inl ⟨rfl, rfl⟩),
  List.forall_mem_cons.mpr ⟨jo_ret (by decide +kernel) rfl,
  fun _ h => absurd h List.not_mem_nil⟩⟩⟩⟩
def jt_65 : List (Nat × jm_I) := jt_65_0
theorem jq_65 : ∀ q ∈ jt_65, jm_Ok 65 q.1 q.2 := jq_65_0
/-! Answers_give -/
def jt_66_0 : List (Nat × jm_I) := [(0, jk_aload 0 1), (1, jk_getf 3 1), (4, jk_const (64) 2), (6, jk_icmp .lt 11), (9, jk_const (-1) 1), (10, jk_iret), (11, jk_aload 0 1), (12, jk_getf 3 0), (15, jk_aload 0 1), (16, jk_getf 3 1), (19, jk_iload 1 1), (20, jk_iast), (21, jk_aload 0 1), (22, jk_dup), (23, jk_getf 3 1), (26, jk_const 1 1), (27, jb_iadd), (28, jk_putf 3 1 0), (31, jk_aload 0 1), (32, jk_getf 3 1), (35, jk_iret)]
theorem jq_66_0 : ∀ q ∈ jt_66_0, jm_Ok 66 q.1 q.2 := List.forall_mem_cons.mpr ⟨jo_aload_n (k := 0) (by decide +kernel),
  List.forall_mem_cons.mpr ⟨jo_getf (by decide +kernel) (jc_at3) (by decide)  jc_in3 jw_331,
  List.forall_mem_cons.mpr ⟨jo_bipush (n := 64) (by decide +kernel) (by decide),
  List.forall_mem_cons.mpr ⟨jo_icmp_lt (off := 5) (by decide +kernel) (by decide),
  List.forall_mem_cons.mpr ⟨jo_iconst (n := -1) (by decide +kernel) (by decide),
  List.forall_mem_cons.mpr ⟨jo_iret (by decide +kernel) rfl,
  List.forall_mem_cons.mpr ⟨jo_aload_n (k := 0) (by decide +kernel),
  List.forall_mem_cons.mpr ⟨jo_getf (by decide +kernel) (jc_at3) (by decide)  jc_in3 jw_330,
  List.forall_mem_cons.mpr ⟨jo_aload_n (k := 0) (by decide +kernel),
  List.forall_mem_cons.mpr ⟨jo_getf (by decide +kernel) (jc_at3) (by decide)  jc_in3 jw_331,
  List.forall_mem_cons.mpr ⟨jo_iload_n (k := 1) (by decide +kernel),
  List.forall_mem_cons.mpr ⟨jo_iast (by decide +kernel) rfl,
  List.forall_mem_cons.mpr ⟨jo_aload_n (k := 0) (by decide +kernel),
  List.forall_mem_cons.mpr ⟨jo_dup (by decide +kernel),
  List.forall_mem_cons.mpr ⟨jo_getf (by decide +kernel) (jc_at3) (by decide)  jc_in3 jw_331,
  List.forall_mem_cons.mpr ⟨jo_iconst (n := 1) (by decide +kernel) (by decide),
  List.forall_mem_cons.mpr ⟨jo_iadd (by decide +kernel),
  List.forall_mem_cons.mpr ⟨jo_putf (by decide +kernel) (jc_at3) (by decide)  jc_ty3 jc_ok3 jc_nm3 jc_in3 jw_331 rfl (ty := .int) (by decide +kernel) (Or.inl ⟨rfl, rfl⟩),
  List.forall_mem_cons.mpr ⟨jo_aload_n (k := 0) (by decide +kernel),
  List.forall_mem_cons.mpr ⟨jo_getf (by decide +kernel) (jc_at3) (by decide)  jc_in3 jw_331,
  List.forall_mem_cons.mpr ⟨jo_iret (by decide +kernel) rfl,
  fun _ h => absurd h List.not_mem_nil⟩⟩⟩⟩⟩⟩⟩⟩⟩⟩⟩⟩⟩⟩⟩⟩⟩⟩⟩⟩⟩
def jt_66 : List (Nat × jm_I) := jt_66_0
theorem jq_66 : ∀ q ∈ jt_66, jm_Ok 66 q.1 q.2 := jq_66_0
/-! Answers_at -/
def jt_67_0 : List (Nat × jm_I) := [(0, jk_iload 1 1), (1, jk_if .lt 21), (4, jk_iload 1 1), (5, jk_aload 0 1), (6, jk_getf 3 1), (9, jk_icmp .ge 21), (12, jk_aload 0 1), (13, jk_getf 3 0), (16, jk_iload 1 1), (17, jk_ald 0), (18, jk_goto 22), (21, jk_const 0 1), (22, jk_iret)]
theorem jq_67_0 : ∀ q ∈ jt_67_0, jm_Ok 67 q.1 q.2 := List.forall_mem_cons.mpr ⟨jo_iload_n (k := 1) (by decide +kernel),
  List.forall_mem_cons.mpr ⟨jo_if_lt (off := 20) (by decide +kernel) (by decide),
  List.forall_mem_cons.mpr ⟨jo_iload_n (k := 1) (by decide +kernel),
  List.forall_mem_cons.mpr ⟨jo_aload_n (k := 0) (by decide +kernel),
  List.forall_mem_cons.mpr ⟨jo_getf (by decide +kernel) (jc_at3) (by decide)  jc_in3 jw_331,
  List.forall_mem_cons.mpr ⟨jo_icmp_ge (off := 12) (by decide +kernel) (by decide),
  List.forall_mem_cons.mpr ⟨jo_aload_n (k := 0) (by decide +kernel),
  List.forall_mem_cons.mpr ⟨jo_getf (by decide +kernel) (jc_at3) (by decide)  jc_in3 jw_330,
  List.forall_mem_cons.mpr ⟨jo_iload_n (k := 1) (by decide +kernel),
  List.forall_mem_cons.mpr ⟨jo_iald (by decide +kernel) rfl,
  List.forall_mem_cons.mpr ⟨jo_goto (off := 4) (by decide +kernel) (by decide),
  List.forall_mem_cons.mpr ⟨jo_iconst (n := 0) (by decide +kernel) (by decide),
  List.forall_mem_cons.mpr ⟨jo_iret (by decide +kernel) rfl,
  fun _ h => absurd h List.not_mem_nil⟩⟩⟩⟩⟩⟩⟩⟩⟩⟩⟩⟩⟩
def jt_67 : List (Nat × jm_I) := jt_67_0
theorem jq_67 : ∀ q ∈ jt_67, jm_Ok 67 q.1 q.2 := jq_67_0
/-! Cells_init -/
def jt_68_0 : List (Nat × jm_I) := [(0, jk_aload 0 1), (1, jk_oinit), (4, jk_const 0 1), (5, jk_iload 1 1), (6, jk_max), (9, jk_istore 2 1), (10, jk_aload 0 1), (11, jk_iload 2 1), (12, jk_newi 0), (14, jk_putf 6 0 2), (17, jk_aload 0 1), (18, jk_iload 2 1), (19, jk_newi 0), (21, jk_putf 6 1 2), (24, jk_aload 0 1), (25, jk_const 0 1), (26, jk_putf 6 2 0), (29, jk_ret)]
theorem jq_68_0 : ∀ q ∈ jt_68_0, jm_Ok 68 q.1 q.2 := List.forall_mem_cons.mpr ⟨jo_aload_n (k := 0) (by decide +kernel),
  List.forall_mem_cons.mpr ⟨jo_oinit (by decide +kernel) ⟨jw_332, jw_107, jw_oi⟩,
  List.forall_mem_cons.mpr ⟨jo_iconst (n := 0) (by decide +kernel) (by decide),
  List.forall_mem_cons.mpr ⟨jo_iload_n (k := 1) (by decide +kernel),
  List.forall_mem_cons.mpr ⟨jo_max (by decide +kernel) ⟨jw_333, jw_334, jw_335, jw_max⟩,
  List.forall_mem_cons.mpr ⟨jo_istore_n (k := 2) (by decide +kernel),
  List.forall_mem_cons.mpr ⟨jo_aload_n (k := 0) (by decide +kernel),
  List.forall_mem_cons.mpr ⟨jo_iload_n (k := 2) (by decide +kernel),
  List.forall_mem_cons.mpr ⟨jo_newi (atype := .int) (ty := .int) (by decide +kernel) rfl (Or.inl rfl) rfl jw_206,
  List.forall_mem_cons.mpr ⟨jo_putF (by decide +kernel) (jc_at6) (by decide)  jc_ty6 jc_ok6 jc_nm6 jc_in6 jw_336 rfl rfl rfl (ty := .array (.int)) (by decide +kernel) (Or.inr (Or.inr (Or.inr ⟨rfl, _, rfl⟩))),
  List.forall_mem_cons.mpr ⟨jo_aload_n (k := 0) (by decide +kernel),
  List.forall_mem_cons.mpr ⟨jo_iload_n (k := 2) (by decide +kernel),
  List.forall_mem_cons.mpr ⟨jo_newi (atype := .int) (ty := .int) (by decide +kernel) rfl (Or.inl rfl) rfl jw_206,
  List.forall_mem_cons.mpr ⟨jo_putF (by decide +kernel) (jc_at6) (by decide)  jc_ty6 jc_ok6 jc_nm6 jc_in6 jw_337 rfl rfl rfl (ty := .array (.int)) (by decide +kernel) (Or.inr (Or.inr (Or.inr ⟨rfl, _, rfl⟩))),
  List.forall_mem_cons.mpr ⟨jo_aload_n (k := 0) (by decide +kernel),
  List.forall_mem_cons.mpr ⟨jo_iconst (n := 0) (by decide +kernel) (by decide),
  List.forall_mem_cons.mpr ⟨jo_putf (by decide +kernel) (jc_at6) (by decide)  jc_ty6 jc_ok6 jc_nm6 jc_in6 jw_338 rfl (ty := .int) (by decide +kernel) (Or.inl ⟨rfl, rfl⟩),
  List.forall_mem_cons.mpr ⟨jo_ret (by decide +kernel) rfl,
  fun _ h => absurd h List.not_mem_nil⟩⟩⟩⟩⟩⟩⟩⟩⟩⟩⟩⟩⟩⟩⟩⟩⟩⟩
def jt_68 : List (Nat × jm_I) := jt_68_0
theorem jq_68 : ∀ q ∈ jt_68, jm_Ok 68 q.1 q.2 := jq_68_0
/-! Cells_resetTo -/
def jt_69_0 : List (Nat × jm_I) := [(0, jk_aload 0 1), (1, jk_const 0 1), (2, jk_iload 1 1), (3, jk_aload 0 1), (4, jk_getf 6 0), (7, jk_alen 4), (8, jk_min), (11, jk_max), (14, jk_putf 6 2 0), (17, jk_const 0 1), (18, jk_istore 2 1), (19, jk_iload 2 1), (20, jk_aload 0 1), (21, jk_getf 6 2), (24, jk_icmp .ge 47), (27, jk_aload 0 1), (28, jk_getf 6 0), (31, jk_iload 2 1), (32, jk_const 0 1), (33, jk_iast), (34, jk_aload 0 1), (35, jk_getf 6 1), (38, jk_iload 2 1), (39, jk_const 0 1), (40, jk_iast), (41, jk_iinc 2 (1)), (44, jk_goto 19), (47, jk_ret)]
theorem jq_69_0 : ∀ q ∈ jt_69_0, jm_Ok 69 q.1 q.2 := List.forall_mem_cons.mpr ⟨jo_aload_n (k := 0) (by decide +kernel),
  List.forall_mem_cons.mpr ⟨jo_iconst (n := 0) (by decide +kernel) (by decide),
  List.forall_mem_cons.mpr ⟨jo_iload_n (k := 1) (by decide +kernel),
  List.forall_mem_cons.mpr ⟨jo_aload_n (k := 0) (by decide +kernel),
  List.forall_mem_cons.mpr ⟨jo_getf (by decide +kernel) (jc_at6) (by decide)  jc_in6 jw_336,
  List.forall_mem_cons.mpr ⟨jo_alen (by decide +kernel) rfl,
  List.forall_mem_cons.mpr ⟨jo_min (by decide +kernel) ⟨jw_339, jw_340, jw_335, jw_min⟩,
  List.forall_mem_cons.mpr ⟨jo_max (by decide +kernel) ⟨jw_333, jw_334, jw_335, jw_max⟩,
  List.forall_mem_cons.mpr ⟨jo_putf (by decide +kernel) (jc_at6) (by decide)  jc_ty6 jc_ok6 jc_nm6 jc_in6 jw_338 rfl (ty := .int) (by decide +kernel) (Or.inl ⟨rfl, rfl⟩),
  List.forall_mem_cons.mpr ⟨jo_iconst (n := 0) (by decide +kernel) (by decide),
  List.forall_mem_cons.mpr ⟨jo_istore_n (k := 2) (by decide +kernel),
  List.forall_mem_cons.mpr ⟨jo_iload_n (k := 2) (by decide +kernel),
  List.forall_mem_cons.mpr ⟨jo_aload_n (k := 0) (by decide +kernel),
  List.forall_mem_cons.mpr ⟨jo_getf (by decide +kernel) (jc_at6) (by decide)  jc_in6 jw_338,
  List.forall_mem_cons.mpr ⟨jo_icmp_ge (off := 23) (by decide +kernel) (by decide),
  List.forall_mem_cons.mpr ⟨jo_aload_n (k := 0) (by decide +kernel),
  List.forall_mem_cons.mpr ⟨jo_getf (by decide +kernel) (jc_at6) (by decide)  jc_in6 jw_336,
  List.forall_mem_cons.mpr ⟨jo_iload_n (k := 2) (by decide +kernel),
  List.forall_mem_cons.mpr ⟨jo_iconst (n := 0) (by decide +kernel) (by decide),
  List.forall_mem_cons.mpr ⟨jo_iast (by decide +kernel) rfl,
  List.forall_mem_cons.mpr ⟨jo_aload_n (k := 0) (by decide +kernel),
  List.forall_mem_cons.mpr ⟨jo_getf (by decide +kernel) (jc_at6) (by decide)  jc_in6 jw_337,
  List.forall_mem_cons.mpr ⟨jo_iload_n (k := 2) (by decide +kernel),
  List.forall_mem_cons.mpr ⟨jo_iconst (n := 0) (by decide +kernel) (by decide),
  List.forall_mem_cons.mpr ⟨jo_iast (by decide +kernel) rfl,
  List.forall_mem_cons.mpr ⟨jo_iinc (n := 1) (by decide +kernel) (by decide),
  List.forall_mem_cons.mpr ⟨jo_goto (off := -25) (by decide +kernel) (by decide),
  List.forall_mem_cons.mpr ⟨jo_ret (by decide +kernel) rfl,
  fun _ h => absurd h List.not_mem_nil⟩⟩⟩⟩⟩⟩⟩⟩⟩⟩⟩⟩⟩⟩⟩⟩⟩⟩⟩⟩⟩⟩⟩⟩⟩⟩⟩⟩
def jt_69 : List (Nat × jm_I) := jt_69_0
theorem jq_69 : ∀ q ∈ jt_69, jm_Ok 69 q.1 q.2 := jq_69_0
/-! Cells_isFull -/
def jt_70_0 : List (Nat × jm_I) := [(0, jk_aload 0 1), (1, jk_getf 6 2), (4, jk_aload 0 1), (5, jk_getf 6 0), (8, jk_alen 4), (9, jk_icmp .lt 16), (12, jk_const 1 1), (13, jk_goto 17), (16, jk_const 0 1), (17, jk_zret)]
theorem jq_70_0 : ∀ q ∈ jt_70_0, jm_Ok 70 q.1 q.2 := List.forall_mem_cons.mpr ⟨jo_aload_n (k := 0) (by decide +kernel),
  List.forall_mem_cons.mpr ⟨jo_getf (by decide +kernel) (jc_at6) (by decide)  jc_in6 jw_338,
  List.forall_mem_cons.mpr ⟨jo_aload_n (k := 0) (by decide +kernel),
  List.forall_mem_cons.mpr ⟨jo_getf (by decide +kernel) (jc_at6) (by decide)  jc_in6 jw_336,
  List.forall_mem_cons.mpr ⟨jo_alen (by decide +kernel) rfl,
  List.forall_mem_cons.mpr ⟨jo_icmp_lt (off := 7) (by decide +kernel) (by decide),
  List.forall_mem_cons.mpr ⟨jo_iconst (n := 1) (by decide +kernel) (by decide),
  List.forall_mem_cons.mpr ⟨jo_goto (off := 4) (by decide +kernel) (by decide),
  List.forall_mem_cons.mpr ⟨jo_iconst (n := 0) (by decide +kernel) (by decide),
  List.forall_mem_cons.mpr ⟨jo_zret (by decide +kernel) rfl,
  fun _ h => absurd h List.not_mem_nil⟩⟩⟩⟩⟩⟩⟩⟩⟩⟩
def jt_70 : List (Nat × jm_I) := jt_70_0
theorem jq_70 : ∀ q ∈ jt_70, jm_Ok 70 q.1 q.2 := jq_70_0
/-! Cells_valueAt -/
def jt_71_0 : List (Nat × jm_I) := [(0, jk_iload 1 1), (1, jk_if .lt 21), (4, jk_iload 1 1), (5, jk_aload 0 1), (6, jk_getf 6 2), (9, jk_icmp .ge 21), (12, jk_aload 0 1), (13, jk_getf 6 0), (16, jk_iload 1 1), (17, jk_ald 0), (18, jk_goto 22), (21, jk_const 0 1), (22, jk_iret)]
theorem jq_71_0 : ∀ q ∈ jt_71_0, jm_Ok 71 q.1 q.2 := List.forall_mem_cons.mpr ⟨jo_iload_n (k := 1) (by decide +kernel),
  List.forall_mem_cons.mpr ⟨jo_if_lt (off := 20) (by decide +kernel) (by decide),
  List.forall_mem_cons.mpr ⟨jo_iload_n (k := 1) (by decide +kernel),
  List.forall_mem_cons.mpr ⟨jo_aload_n (k := 0) (by decide +kernel),
  List.forall_mem_cons.mpr ⟨jo_getf (by decide +kernel) (jc_at6) (by decide)  jc_in6 jw_338,
  List.forall_mem_cons.mpr ⟨jo_icmp_ge (off := 12) (by decide +kernel) (by decide),
  List.forall_mem_cons.mpr ⟨jo_aload_n (k := 0) (by decide +kernel),
  List.forall_mem_cons.mpr ⟨jo_getf (by decide +kernel) (jc_at6) (by decide)  jc_in6 jw_336,
  List.forall_mem_cons.mpr ⟨jo_iload_n (k := 1) (by decide +kernel),
  List.forall_mem_cons.mpr ⟨jo_iald (by decide +kernel) rfl,
  List.forall_mem_cons.mpr ⟨jo_goto (off := 4) (by decide +kernel) (by decide),
  List.forall_mem_cons.mpr ⟨jo_iconst (n := 0) (by decide +kernel) (by decide),
  List.forall_mem_cons.mpr ⟨jo_iret (by decide +kernel) rfl,
  fun _ h => absurd h List.not_mem_nil⟩⟩⟩⟩⟩⟩⟩⟩⟩⟩⟩⟩⟩
def jt_71 : List (Nat × jm_I) := jt_71_0
theorem jq_71 : ∀ q ∈ jt_71, jm_Ok 71 q.1 q.2 := jq_71_0
/-! Cells_kindAt -/
def jt_72_0 : List (Nat × jm_I) := [(0, jk_iload 1 1), (1, jk_if .lt 21), (4, jk_iload 1 1), (5, jk_aload 0 1), (6, jk_getf 6 2), (9, jk_icmp .ge 21), (12, jk_aload 0 1), (13, jk_getf 6 1), (16, jk_iload 1 1), (17, jk_ald 0), (18, jk_goto 22), (21, jk_const (-1) 1), (22, jk_iret)]
theorem jq_72_0 : ∀ q ∈ jt_72_0, jm_Ok 72 q.1 q.2 := List.forall_mem_cons.mpr ⟨jo_iload_n (k := 1) (by decide +kernel),
  List.forall_mem_cons.mpr ⟨jo_if_lt (off := 20) (by decide +kernel) (by decide),
  List.forall_mem_cons.mpr ⟨jo_iload_n (k := 1) (by decide +kernel),
  List.forall_mem_cons.mpr ⟨jo_aload_n (k := 0) (by decide +kernel),
  List.forall_mem_cons.mpr ⟨jo_getf (by decide +kernel) (jc_at6) (by decide)  jc_in6 jw_338,
  List.forall_mem_cons.mpr ⟨jo_icmp_ge (off := 12) (by decide +kernel) (by decide),
  List.forall_mem_cons.mpr ⟨jo_aload_n (k := 0) (by decide +kernel),
  List.forall_mem_cons.mpr ⟨jo_getf (by decide +kernel) (jc_at6) (by decide)  jc_in6 jw_337,
  List.forall_mem_cons.mpr ⟨jo_iload_n (k := 1) (by decide +kernel),
  List.forall_mem_cons.mpr ⟨jo_iald (by decide +kernel) rfl,
  List.forall_mem_cons.mpr ⟨jo_goto (off := 4) (by decide +kernel) (by decide),
  List.forall_mem_cons.mpr ⟨jo_iconst (n := -1) (by decide +kernel) (by decide),
  List.forall_mem_cons.mpr ⟨jo_iret (by decide +kernel) rfl,
  fun _ h => absurd h List.not_mem_nil⟩⟩⟩⟩⟩⟩⟩⟩⟩⟩⟩⟩⟩
def jt_72 : List (Nat × jm_I) := jt_72_0
theorem jq_72 : ∀ q ∈ jt_72, jm_Ok 72 q.1 q.2 := jq_72_0
/-! Cells_top -/
def jt_73_0 : List (Nat × jm_I) := [(0, jk_aload 0 1), (1, jk_aload 0 1), (2, jk_getf 6 2), (5, jk_const 1 1), (6, jb_isub), (7, jk_iload 1 1), (8, jb_isub), (9, jk_callV 71 1 6), (12, jk_iret)]
theorem jq_73_0 : ∀ q ∈ jt_73_0, jm_Ok 73 q.1 q.2 := List.forall_mem_cons.mpr ⟨jo_aload_n (k := 0) (by decide +kernel),
  List.forall_mem_cons.mpr ⟨jo_aload_n (k := 0) (by decide +kernel),
  List.forall_mem_cons.mpr ⟨jo_getf (by decide +kernel) (jc_at6) (by decide)  jc_in6 jw_338,
  List.forall_mem_cons.mpr ⟨jo_iconst (n := 1) (by decide +kernel) (by decide),
  List.forall_mem_cons.mpr ⟨jo_isub (by decide +kernel),
  List.forall_mem_cons.mpr ⟨jo_iload_n (k := 1) (by decide +kernel),
  List.forall_mem_cons.mpr ⟨jo_isub (by decide +kernel),
  List.forall_mem_cons.mpr ⟨jo_callV (by decide +kernel) (jc_at6) jw_341 jw_181 jw_182 jce_71 (by decide) (by decide),
  List.forall_mem_cons.mpr ⟨jo_iret (by decide +kernel) rfl,
  fun _ h => absurd h List.not_mem_nil⟩⟩⟩⟩⟩⟩⟩⟩⟩
def jt_73 : List (Nat × jm_I) := jt_73_0
theorem jq_73 : ∀ q ∈ jt_73, jm_Ok 73 q.1 q.2 := jq_73_0
/-! Cells_isInt -/
def jt_74_0 : List (Nat × jm_I) := [(0, jk_aload 0 1), (1, jk_aload 0 1), (2, jk_getf 6 2), (5, jk_const 1 1), (6, jb_isub), (7, jk_iload 1 1), (8, jb_isub), (9, jk_callV 72 1 6), (12, jk_if .ne 19), (15, jk_const 1 1), (16, jk_goto 20), (19, jk_const 0 1), (20, jk_zret)]
theorem jq_74_0 : ∀ q ∈ jt_74_0, jm_Ok 74 q.1 q.2 := List.forall_mem_cons.mpr ⟨jo_aload_n (k := 0) (by decide +kernel),
  List.forall_mem_cons.mpr ⟨jo_aload_n (k := 0) (by decide +kernel),
  List.forall_mem_cons.mpr ⟨jo_getf (by decide +kernel) (jc_at6) (by decide)  jc_in6 jw_338,
  List.forall_mem_cons.mpr ⟨jo_iconst (n := 1) (by decide +kernel) (by decide),
  List.forall_mem_cons.mpr ⟨jo_isub (by decide +kernel),
  List.forall_mem_cons.mpr ⟨jo_iload_n (k := 1) (by decide +kernel),
  List.forall_mem_cons.mpr ⟨jo_isub (by decide +kernel),
  List.forall_mem_cons.mpr ⟨jo_callV (by decide +kernel) (jc_at6) jw_342 jw_184 jw_185 jce_72 (by decide) (by decide),
  List.forall_mem_cons.mpr ⟨jo_if_ne (off := 7) (by decide +kernel) (by decide),
  List.forall_mem_cons.mpr ⟨jo_iconst (n := 1) (by decide +kernel) (by decide),
  List.forall_mem_cons.mpr ⟨jo_goto (off := 4) (by decide +kernel) (by decide),
  List.forall_mem_cons.mpr ⟨jo_iconst (n := 0) (by decide +kernel) (by decide),
  List.forall_mem_cons.mpr ⟨jo_zret (by decide +kernel) rfl,
  fun _ h => absurd h List.not_mem_nil⟩⟩⟩⟩⟩⟩⟩⟩⟩⟩⟩⟩⟩
def jt_74 : List (Nat × jm_I) := jt_74_0
theorem jq_74 : ∀ q ∈ jt_74, jm_Ok 74 q.1 q.2 := jq_74_0
/-! Cells_isRow -/
def jt_75_0 : List (Nat × jm_I) := [(0, jk_aload 0 1), (1, jk_aload 0 1), (2, jk_getf 6 2), (5, jk_const 1 1), (6, jb_isub), (7, jk_iload 1 1), (8, jb_isub), (9, jk_callV 72 1 6), (12, jk_if .le 19), (15, jk_const 1 1), (16, jk_goto 20), (19, jk_const 0 1), (20, jk_zret)]
theorem jq_75_0 : ∀ q ∈ jt_75_0, jm_Ok 75 q.1 q.2 := List.forall_mem_cons.mpr ⟨jo_aload_n (k := 0) (by decide +kernel),
  List.forall_mem_cons.mpr ⟨jo_aload_n (k := 0) (by decide +kernel),
  List.forall_mem_cons.mpr ⟨jo_getf (by decide +kernel) (jc_at6) (by decide)  jc_in6 jw_338,
  List.forall_mem_cons.mpr ⟨jo_iconst (n := 1) (by decide +kernel) (by decide),
  List.forall_mem_cons.mpr ⟨jo_isub (by decide +kernel),
  List.forall_mem_cons.mpr ⟨jo_iload_n (k := 1) (by decide +kernel),
  List.forall_mem_cons.mpr ⟨jo_isub (by decide +kernel),
  List.forall_mem_cons.mpr ⟨jo_callV (by decide +kernel) (jc_at6) jw_342 jw_184 jw_185 jce_72 (by decide) (by decide),
  List.forall_mem_cons.mpr ⟨jo_if_le (off := 7) (by decide +kernel) (by decide),
  List.forall_mem_cons.mpr ⟨jo_iconst (n := 1) (by decide +kernel) (by decide),
  List.forall_mem_cons.mpr ⟨jo_goto (off := 4) (by decide +kernel) (by decide),
  List.forall_mem_cons.mpr ⟨jo_iconst (n := 0) (by decide +kernel) (by decide),
  List.forall_mem_cons.mpr ⟨jo_zret (by decide +kernel) rfl,
  fun _ h => absurd h List.not_mem_nil⟩⟩⟩⟩⟩⟩⟩⟩⟩⟩⟩⟩⟩
def jt_75 : List (Nat × jm_I) := jt_75_0
theorem jq_75 : ∀ q ∈ jt_75, jm_Ok 75 q.1 q.2 := jq_75_0
/-! Cells_areInts -/
def jt_76_0 : List (Nat × jm_I) := [(0, jk_const 0 1), (1, jk_istore 2 1), (2, jk_iload 2 1), (3, jk_iload 1 1), (4, jk_icmp .ge 23), (7, jk_aload 0 1), (8, jk_iload 2 1), (9, jk_callV 74 1 6), (12, jk_if .ne 17), (15, jk_const 0 1), (16, jk_zret), (17, jk_iinc 2 (1)), (20, jk_goto 2), (23, jk_const 1 1), (24, jk_zret)]
theorem jq_76_0 : ∀ q ∈ jt_76_0, jm_Ok 76 q.1 q.2 := List.forall_mem_cons.mpr ⟨jo_iconst (n := 0) (by decide +kernel) (by decide),
  List.forall_mem_cons.mpr ⟨jo_istore_n (k := 2) (by decide +kernel),
  List.forall_mem_cons.mpr ⟨jo_iload_n (k := 2) (by decide +kernel),
  List.forall_mem_cons.mpr ⟨jo_iload_n (k := 1) (by decide +kernel),
  List.forall_mem_cons.mpr ⟨jo_icmp_ge (off := 19) (by decide +kernel) (by decide),
  List.forall_mem_cons.mpr ⟨jo_aload_n (k := 0) (by decide +kernel),
  List.forall_mem_cons.mpr ⟨jo_iload_n (k := 2) (by decide +kernel),
  List.forall_mem_cons.mpr ⟨jo_callV (by decide +kernel) (jc_at6) jw_343 jw_344 jw_345 jce_74 (by decide) (by decide),
  List.forall_mem_cons.mpr ⟨jo_if_ne (off := 5) (by decide +kernel) (by decide),
  List.forall_mem_cons.mpr ⟨jo_iconst (n := 0) (by decide +kernel) (by decide),
  List.forall_mem_cons.mpr ⟨jo_zret (by decide +kernel) rfl,
  List.forall_mem_cons.mpr ⟨jo_iinc (n := 1) (by decide +kernel) (by decide),
  List.forall_mem_cons.mpr ⟨jo_goto (off := -18) (by decide +kernel) (by decide),
  List.forall_mem_cons.mpr ⟨jo_iconst (n := 1) (by decide +kernel) (by decide),
  List.forall_mem_cons.mpr ⟨jo_zret (by decide +kernel) rfl,
  fun _ h => absurd h List.not_mem_nil⟩⟩⟩⟩⟩⟩⟩⟩⟩⟩⟩⟩⟩⟩⟩
def jt_76 : List (Nat × jm_I) := jt_76_0
theorem jq_76 : ∀ q ∈ jt_76, jm_Ok 76 q.1 q.2 := jq_76_0
/-! Cells_rowNumber -/
def jt_77_0 : List (Nat × jm_I) := [(0, jk_aload 0 1), (1, jk_aload 0 1), (2, jk_getf 6 2), (5, jk_const 1 1), (6, jb_isub), (7, jk_iload 1 1), (8, jb_isub), (9, jk_callV 72 1 6), (12, jk_const 1 1), (13, jb_isub), (14, jk_iret)]
theorem jq_77_0 : ∀ q ∈ jt_77_0, jm_Ok 77 q.1 q.2 := List.forall_mem_cons.mpr ⟨jo_aload_n (k := 0) (by decide +kernel),
  List.forall_mem_cons.mpr ⟨jo_aload_n (k := 0) (by decide +kernel),
  List.forall_mem_cons.mpr ⟨jo_getf (by decide +kernel) (jc_at6) (by decide)  jc_in6 jw_338,
  List.forall_mem_cons.mpr ⟨jo_iconst (n := 1) (by decide +kernel) (by decide),
  List.forall_mem_cons.mpr ⟨jo_isub (by decide +kernel),
  List.forall_mem_cons.mpr ⟨jo_iload_n (k := 1) (by decide +kernel),
  List.forall_mem_cons.mpr ⟨jo_isub (by decide +kernel),
  List.forall_mem_cons.mpr ⟨jo_callV (by decide +kernel) (jc_at6) jw_342 jw_184 jw_185 jce_72 (by decide) (by decide),
  List.forall_mem_cons.mpr ⟨jo_iconst (n := 1) (by decide +kernel) (by decide),
  List.forall_mem_cons.mpr ⟨jo_isub (by decide +kernel),
  List.forall_mem_cons.mpr ⟨jo_iret (by decide +kernel) rfl,
  fun _ h => absurd h List.not_mem_nil⟩⟩⟩⟩⟩⟩⟩⟩⟩⟩⟩
def jt_77 : List (Nat × jm_I) := jt_77_0
theorem jq_77 : ∀ q ∈ jt_77, jm_Ok 77 q.1 q.2 := jq_77_0
/-! Cells_put -/
def jt_78_0 : List (Nat × jm_I) := [(0, jk_aload 0 1), (1, jk_getf 6 2), (4, jk_aload 0 1), (5, jk_getf 6 0), (8, jk_alen 4), (9, jk_icmp .ge 42), (12, jk_aload 0 1), (13, jk_getf 6 0), (16, jk_aload 0 1), (17, jk_getf 6 2), (20, jk_iload 1 1), (21, jk_iast), (22, jk_aload 0 1), (23, jk_getf 6 1), (26, jk_aload 0 1), (27, jk_getf 6 2), (30, jk_iload 2 1), (31, jk_iast), (32, jk_aload 0 1), (33, jk_dup), (34, jk_getf 6 2), (37, jk_const 1 1), (38, jb_iadd), (39, jk_putf 6 2 0), (42, jk_ret)]
theorem jq_78_0 : ∀ q ∈ jt_78_0, jm_Ok 78 q.1 q.2 := List.forall_mem_cons.mpr ⟨jo_aload_n (k := 0) (by decide +kernel),
  List.forall_mem_cons.mpr ⟨jo_getf (by decide +kernel) (jc_at6) (by decide)  jc_in6 jw_338,
  List.forall_mem_cons.mpr ⟨jo_aload_n (k := 0) (by decide +kernel),
  List.forall_mem_cons.mpr ⟨jo_getf (by decide +kernel) (jc_at6) (by decide)  jc_in6 jw_336,
  List.forall_mem_cons.mpr ⟨jo_alen (by decide +kernel) rfl,
  List.forall_mem_cons.mpr ⟨jo_icmp_ge (off := 33) (by decide +kernel) (by decide),
  List.forall_mem_cons.mpr ⟨jo_aload_n (k := 0) (by decide +kernel),
  List.forall_mem_cons.mpr ⟨jo_getf (by decide +kernel) (jc_at6) (by decide)  jc_in6 jw_336,
  List.forall_mem_cons.mpr ⟨jo_aload_n (k := 0) (by decide +kernel),
  List.forall_mem_cons.mpr ⟨jo_getf (by decide +kernel) (jc_at6) (by decide)  jc_in6 jw_338,
  List.forall_mem_cons.mpr ⟨jo_iload_n (k := 1) (by decide +kernel),
  List.forall_mem_cons.mpr ⟨jo_iast (by decide +kernel) rfl,
  List.forall_mem_cons.mpr ⟨jo_aload_n (k := 0) (by decide +kernel),
  List.forall_mem_cons.mpr ⟨jo_getf (by decide +kernel) (jc_at6) (by decide)  jc_in6 jw_337,
  List.forall_mem_cons.mpr ⟨jo_aload_n (k := 0) (by decide +kernel),
  List.forall_mem_cons.mpr ⟨jo_getf (by decide +kernel) (jc_at6) (by decide)  jc_in6 jw_338,
  List.forall_mem_cons.mpr ⟨jo_iload_n (k := 2) (by decide +kernel),
  List.forall_mem_cons.mpr ⟨jo_iast (by decide +kernel) rfl,
  List.forall_mem_cons.mpr ⟨jo_aload_n (k := 0) (by decide +kernel),
  List.forall_mem_cons.mpr ⟨jo_dup (by decide +kernel),
  List.forall_mem_cons.mpr ⟨jo_getf (by decide +kernel) (jc_at6) (by decide)  jc_in6 jw_338,
  List.forall_mem_cons.mpr ⟨jo_iconst (n := 1) (by decide +kernel) (by decide),
  List.forall_mem_cons.mpr ⟨jo_iadd (by decide +kernel),
  List.forall_mem_cons.mpr ⟨jo_putf (by decide +kernel) (jc_at6) (by decide)  jc_ty6 jc_ok6 jc_nm6 jc_in6 jw_338 rfl (ty := .int) (by decide +kernel) (Or.inl ⟨rfl, rfl⟩),
  List.forall_mem_cons.mpr ⟨jo_ret (by decide +kernel) rfl,
  fun _ h => absurd h List.not_mem_nil⟩⟩⟩⟩⟩⟩⟩⟩⟩⟩⟩⟩⟩⟩⟩⟩⟩⟩⟩⟩⟩⟩⟩⟩⟩
def jt_78 : List (Nat × jm_I) := jt_78_0
theorem jq_78 : ∀ q ∈ jt_78, jm_Ok 78 q.1 q.2 := jq_78_0
/-! Cells_set -/
def jt_79_0 : List (Nat × jm_I) := [(0, jk_iload 1 1), (1, jk_if .lt 26), (4, jk_iload 1 1), (5, jk_aload 0 1), (6, jk_getf 6 2), (9, jk_icmp .ge 26), (12, jk_aload 0 1), (13, jk_getf 6 0), (16, jk_iload 1 1), (17, jk_iload 2 1), (18, jk_iast), (19, jk_aload 0 1), (20, jk_getf 6 1), (23, jk_iload 1 1), (24, jk_iload 3 1), (25, jk_iast), (26, jk_ret)]
theorem jq_79_0 : ∀ q ∈ jt_79_0, jm_Ok 79 q.1 q.2 := List.forall_mem_cons.mpr ⟨jo_iload_n (k := 1) (by decide +kernel),
  List.forall_mem_cons.mpr ⟨jo_if_lt (off := 25) (by decide +kernel) (by decide),
  List.forall_mem_cons.mpr ⟨jo_iload_n (k := 1) (by decide +kernel),
  List.forall_mem_cons.mpr ⟨jo_aload_n (k := 0) (by decide +kernel),
  List.forall_mem_cons.mpr ⟨jo_getf (by decide +kernel) (jc_at6) (by decide)  jc_in6 jw_338,
  List.forall_mem_cons.mpr ⟨jo_icmp_ge (off := 17) (by decide +kernel) (by decide),
  List.forall_mem_cons.mpr ⟨jo_aload_n (k := 0) (by decide +kernel),
  List.forall_mem_cons.mpr ⟨jo_getf (by decide +kernel) (jc_at6) (by decide)  jc_in6 jw_336,
  List.forall_mem_cons.mpr ⟨jo_iload_n (k := 1) (by decide +kernel),
  List.forall_mem_cons.mpr ⟨jo_iload_n (k := 2) (by decide +kernel),
  List.forall_mem_cons.mpr ⟨jo_iast (by decide +kernel) rfl,
  List.forall_mem_cons.mpr ⟨jo_aload_n (k := 0) (by decide +kernel),
  List.forall_mem_cons.mpr ⟨jo_getf (by decide +kernel) (jc_at6) (by decide)  jc_in6 jw_337,
  List.forall_mem_cons.mpr ⟨jo_iload_n (k := 1) (by decide +kernel),
  List.forall_mem_cons.mpr ⟨jo_iload_n (k := 3) (by decide +kernel),
  List.forall_mem_cons.mpr ⟨jo_iast (by decide +kernel) rfl,
  List.forall_mem_cons.mpr ⟨jo_ret (by decide +kernel) rfl,
  fun _ h => absurd h List.not_mem_nil⟩⟩⟩⟩⟩⟩⟩⟩⟩⟩⟩⟩⟩⟩⟩⟩⟩
def jt_79 : List (Nat × jm_I) := jt_79_0
theorem jq_79 : ∀ q ∈ jt_79, jm_Ok 79 q.1 q.2 := jq_79_0
/-! Cells_take -/
def jt_80_0 : List (Nat × jm_I) := [(0, jk_aload 0 1), (1, jk_iload 1 1), (2, jk_aload 0 1), (3, jk_getf 6 2), (6, jk_icmp .ge 18), (9, jk_aload 0 1), (10, jk_getf 6 2), (13, jk_iload 1 1), (14, jb_isub), (15, jk_goto 19), (18, jk_const 0 1), (19, jk_putf 6 2 0), (22, jk_ret)]
theorem jq_80_0 : ∀ q ∈ jt_80_0, jm_Ok 80 q.1 q.2 := List.forall_mem_cons.mpr ⟨jo_aload_n (k := 0) (by decide +kernel),
  List.forall_mem_cons.mpr ⟨jo_iload_n (k := 1) (by decide +kernel),
  List.forall_mem_cons.mpr ⟨jo_aload_n (k := 0) (by decide +kernel),
  List.forall_mem_cons.mpr ⟨jo_getf (by decide +kernel) (jc_at6) (by decide)  jc_in6 jw_338,
  List.forall_mem_cons.mpr ⟨jo_icmp_ge (off := 12) (by decide +kernel) (by decide),
  List.forall_mem_cons.mpr ⟨jo_aload_n (k := 0) (by decide +kernel),
  List.forall_mem_cons.mpr ⟨jo_getf (by decide +kernel) (jc_at6) (by decide)  jc_in6 jw_338,
  List.forall_mem_cons.mpr ⟨jo_iload_n (k := 1) (by decide +kernel),
  List.forall_mem_cons.mpr ⟨jo_isub (by decide +kernel),
  List.forall_mem_cons.mpr ⟨jo_goto (off := 4) (by decide +kernel) (by decide),
  List.forall_mem_cons.mpr ⟨jo_iconst (n := 0) (by decide +kernel) (by decide),
  List.forall_mem_cons.mpr ⟨jo_putf (by decide +kernel) (jc_at6) (by decide)  jc_ty6 jc_ok6 jc_nm6 jc_in6 jw_338 rfl (ty := .int) (by decide +kernel) (Or.inl ⟨rfl, rfl⟩),
  List.forall_mem_cons.mpr ⟨jo_ret (by decide +kernel) rfl,
  fun _ h => absurd h List.not_mem_nil⟩⟩⟩⟩⟩⟩⟩⟩⟩⟩⟩⟩⟩
def jt_80 : List (Nat × jm_I) := jt_80_0
theorem jq_80 : ∀ q ∈ jt_80, jm_Ok 80 q.1 q.2 := jq_80_0
/-! Cells_replaceInts -/
def jt_81_0 : List (Nat × jm_I) := [(0, jk_aload 0 1), (1, jk_iload 1 1), (2, jk_callV 80 1 6), (5, jk_aload 0 1), (6, jk_iload 2 1), (7, jk_const 0 1), (8, jk_callV 78 2 6), (11, jk_ret)]
theorem jq_81_0 : ∀ q ∈ jt_81_0, jm_Ok 81 q.1 q.2 := List.forall_mem_cons.mpr ⟨jo_aload_n (k := 0) (by decide +kernel),
  List.forall_mem_cons.mpr ⟨jo_iload_n (k := 1) (by decide +kernel),
  List.forall_mem_cons.mpr ⟨jo_callV (by decide +kernel) (jc_at6) jw_346 jw_347 jw_348 jce_80 (by decide) (by decide),
  List.forall_mem_cons.mpr ⟨jo_aload_n (k := 0) (by decide +kernel),
  List.forall_mem_cons.mpr ⟨jo_iload_n (k := 2) (by decide +kernel),
  List.forall_mem_cons.mpr ⟨jo_iconst (n := 0) (by decide +kernel) (by decide),
  List.forall_mem_cons.mpr ⟨jo_callV (by decide +kernel) (jc_at6) jw_349 jw_350 jw_351 jce_78 (by decide) (by decide),
  List.forall_mem_cons.mpr ⟨jo_ret (by decide +kernel) rfl,
  fun _ h => absurd h List.not_mem_nil⟩⟩⟩⟩⟩⟩⟩⟩
def jt_81 : List (Nat × jm_I) := jt_81_0
theorem jq_81 : ∀ q ∈ jt_81, jm_Ok 81 q.1 q.2 := jq_81_0
/-! Frame_init -/
def jt_82_0 : List (Nat × jm_I) := [(0, jk_aload 0 1), (1, jk_oinit), (4, jk_aload 0 1), (5, jk_new 6 jc_new6), (8, jk_dup), (9, jk_const (16) 2), (11, jk_callI 68 1), (14, jk_putf 5 0 2), (17, jk_aload 0 1), (18, jk_new 6 jc_new6), (21, jk_dup), (22, jk_const (8) 2), (24, jk_callI 68 1), (27, jk_putf 5 1 2), (30, jk_ret)]
theorem jq_82_0 : ∀ q ∈ jt_82_0, jm_Ok 82 q.1 q.2 := List.forall_mem_cons.mpr ⟨jo_aload_n (k := 0) (by decide +kernel),
  List.forall_mem_cons.mpr ⟨jo_oinit (by decide +kernel) ⟨jw_352, jw_107, jw_oi⟩,
  List.forall_mem_cons.mpr ⟨jo_aload_n (k := 0) (by decide +kernel),
  List.forall_mem_cons.mpr ⟨jo_new (by decide +kernel) (jc_at6) jc_ty6 jc_ok6 jc_in6 ⟨jw_353, jw_354, jw_180⟩ rfl jc_df6,
  List.forall_mem_cons.mpr ⟨jo_dup (by decide +kernel),
  List.forall_mem_cons.mpr ⟨jo_bipush (n := 16) (by decide +kernel) (by decide),
  List.forall_mem_cons.mpr ⟨jo_callI (by decide +kernel) jw_355 jw_356 rfl rfl jce_68 (by decide) (by decide),
  List.forall_mem_cons.mpr ⟨jo_putF (by decide +kernel) (jc_at5) (by decide)  jc_ty5 jc_ok5 jc_nm5 jc_in5 jw_357 rfl rfl rfl (ty := .object "StackRun$Cells") (by decide +kernel) (Or.inr (Or.inr (Or.inl ⟨rfl, _, rfl⟩))),
  List.forall_mem_cons.mpr ⟨jo_aload_n (k := 0) (by decide +kernel),
  List.forall_mem_cons.mpr ⟨jo_new (by decide +kernel) (jc_at6) jc_ty6 jc_ok6 jc_in6 ⟨jw_353, jw_354, jw_180⟩ rfl jc_df6,
  List.forall_mem_cons.mpr ⟨jo_dup (by decide +kernel),
  List.forall_mem_cons.mpr ⟨jo_bipush (n := 8) (by decide +kernel) (by decide),
  List.forall_mem_cons.mpr ⟨jo_callI (by decide +kernel) jw_355 jw_356 rfl rfl jce_68 (by decide) (by decide),
  List.forall_mem_cons.mpr ⟨jo_putF (by decide +kernel) (jc_at5) (by decide)  jc_ty5 jc_ok5 jc_nm5 jc_in5 jw_358 rfl rfl rfl (ty := .object "StackRun$Cells") (by decide +kernel) (Or.inr (Or.inr (Or.inl ⟨rfl, _, rfl⟩))),
  List.forall_mem_cons.mpr ⟨jo_ret (by decide +kernel) rfl,
  fun _ h => absurd h List.not_mem_nil⟩⟩⟩⟩⟩⟩⟩⟩⟩⟩⟩⟩⟩⟩⟩
def jt_82 : List (Nat × jm_I) := jt_82_0
theorem jq_82 : ∀ q ∈ jt_82, jm_Ok 82 q.1 q.2 := jq_82_0
/-! Frame_reset -/
def jt_83_0 : List (Nat × jm_I) := [(0, jk_aload 0 1), (1, jk_iload 1 1), (2, jk_putf 5 2 0), (5, jk_aload 0 1), (6, jk_const 0 1), (7, jk_putf 5 3 0), (10, jk_aload 0 1), (11, jk_getf 5 0), (14, jk_const 0 1), (15, jk_callV 69 1 6), (18, jk_aload 0 1), (19, jk_getf 5 1), (22, jk_iload 2 1), (23, jk_callV 69 1 6), (26, jk_ret)]
theorem jq_83_0 : ∀ q ∈ jt_83_0, jm_Ok 83 q.1 q.2 := List.forall_mem_cons.mpr ⟨jo_aload_n (k := 0) (by decide +kernel),
  List.forall_mem_cons.mpr ⟨jo_iload_n (k := 1) (by decide +kernel),
  List.forall_mem_cons.mpr ⟨jo_putf (by decide +kernel) (jc_at5) (by decide)  jc_ty5 jc_ok5 jc_nm5 jc_in5 jw_359 rfl (ty := .int) (by decide +kernel) (Or.inl ⟨rfl, rfl⟩),
  List.forall_mem_cons.mpr ⟨jo_aload_n (k := 0) (by decide +kernel),
  List.forall_mem_cons.mpr ⟨jo_iconst (n := 0) (by decide +kernel) (by decide),
  List.forall_mem_cons.mpr ⟨jo_putf (by decide +kernel) (jc_at5) (by decide)  jc_ty5 jc_ok5 jc_nm5 jc_in5 jw_360 rfl (ty := .int) (by decide +kernel) (Or.inl ⟨rfl, rfl⟩),
  List.forall_mem_cons.mpr ⟨jo_aload_n (k := 0) (by decide +kernel),
  List.forall_mem_cons.mpr ⟨jo_getf (by decide +kernel) (jc_at5) (by decide)  jc_in5 jw_357,
  List.forall_mem_cons.mpr ⟨jo_iconst (n := 0) (by decide +kernel) (by decide),
  List.forall_mem_cons.mpr ⟨jo_callV (by decide +kernel) (jc_at6) jw_361 jw_362 jw_363 jce_69 (by decide) (by decide),
  List.forall_mem_cons.mpr ⟨jo_aload_n (k := 0) (by decide +kernel),
  List.forall_mem_cons.mpr ⟨jo_getf (by decide +kernel) (jc_at5) (by decide)  jc_in5 jw_358,
  List.forall_mem_cons.mpr ⟨jo_iload_n (k := 2) (by decide +kernel),
  List.forall_mem_cons.mpr ⟨jo_callV (by decide +kernel) (jc_at6) jw_361 jw_362 jw_363 jce_69 (by decide) (by decide),
  List.forall_mem_cons.mpr ⟨jo_ret (by decide +kernel) rfl,
  fun _ h => absurd h List.not_mem_nil⟩⟩⟩⟩⟩⟩⟩⟩⟩⟩⟩⟩⟩⟩⟩
def jt_83 : List (Nat × jm_I) := jt_83_0
theorem jq_83 : ∀ q ∈ jt_83, jm_Ok 83 q.1 q.2 := jq_83_0
/-! Frame_cells -/
def jt_84_0 : List (Nat × jm_I) := [(0, jk_iload 1 1), (1, jk_if .eq 11), (4, jk_aload 0 1), (5, jk_getf 5 1), (8, jk_goto 15), (11, jk_aload 0 1), (12, jk_getf 5 0), (15, jk_aret)]
theorem jq_84_0 : ∀ q ∈ jt_84_0, jm_Ok 84 q.1 q.2 := List.forall_mem_cons.mpr ⟨jo_iload_n (k := 1) (by decide +kernel),
  List.forall_mem_cons.mpr ⟨jo_if_eq (off := 10) (by decide +kernel) (by decide),
  List.forall_mem_cons.mpr ⟨jo_aload_n (k := 0) (by decide +kernel),
  List.forall_mem_cons.mpr ⟨jo_getf (by decide +kernel) (jc_at5) (by decide)  jc_in5 jw_358,
  List.forall_mem_cons.mpr ⟨jo_goto (off := 7) (by decide +kernel) (by decide),
  List.forall_mem_cons.mpr ⟨jo_aload_n (k := 0) (by decide +kernel),
  List.forall_mem_cons.mpr ⟨jo_getf (by decide +kernel) (jc_at5) (by decide)  jc_in5 jw_357,
  List.forall_mem_cons.mpr ⟨jo_aret (by decide +kernel) rfl (Or.inl ⟨_, rfl⟩),
  fun _ h => absurd h List.not_mem_nil⟩⟩⟩⟩⟩⟩⟩⟩
def jt_84 : List (Nat × jm_I) := jt_84_0
theorem jq_84 : ∀ q ∈ jt_84, jm_Ok 84 q.1 q.2 := jq_84_0
