section JR
variable {X : jm_X} {L : jm_L} {S : List jm_V} {σ : jm_S} {l0 l1 l2 l3 l4 l5 l6 l7 : Option jm_V} {x p q : Int32} {a : Nat} {r : Option Nat ⊕ Unit} {o : Option Nat} {u : Unit} {v w v0 v1 v2 v3 v4 v5 : jm_V}
theorem r_M_row_0 : je X 61 0 [some (.inr r), l1, l2] S σ = je X 61 1 [some (.inr r), l1, l2] (.inr r :: S) σ := je_aload (show jm_fe 61 0 = some (jk_aload 0 1) from rfl) rfl
theorem r_M_row_1 : je X 61 1 L S σ = je X 61 2 L (.inl 0 :: S) σ := je_const (show jm_fe 61 1 = some (jk_const 0 1) from rfl)
theorem r_M_row_2 : je X 61 2 L (v :: .inr (.inl (some a)) :: S) σ = je_h X 61 5 L S σ.2 (jm_pf σ.1 a 9 0 0 v) := je_putf (show jm_fe 61 2 = some (jk_putf 9 0 0) from rfl)
theorem r_M_row_5 : je X 61 5 [some (.inr r), l1, l2] S σ = je X 61 6 [some (.inr r), l1, l2] (.inr r :: S) σ := je_aload (show jm_fe 61 5 = some (jk_aload 0 1) from rfl) rfl
theorem r_M_row_6 : je X 61 6 L (.inr (.inl (some a)) :: S) σ = je_v X 61 9 L S σ (jm_gf σ.1 a 9 16) := je_getf (show jm_fe 61 6 = some (jk_getf 9 16) from rfl)
theorem r_M_row_9 : je X 61 9 L (.inl p :: S) σ = if p = 0 then je X 61 40 L S σ else je X 61 12 L S σ := je_if_eq (show jm_fe 61 9 = some (jk_if .eq 40) from rfl)
theorem r_M_row_12 : je X 61 12 [l0, some (.inl x), l2] S σ = je X 61 13 [l0, some (.inl x), l2] (.inl x :: S) σ := je_iload (show jm_fe 61 12 = some (jk_iload 1 1) from rfl) rfl
theorem r_M_row_13 : je X 61 13 L (.inl p :: S) σ = if p < 0 then je X 61 40 L S σ else je X 61 16 L S σ := je_if_lt (show jm_fe 61 13 = some (jk_if .lt 40) from rfl)
theorem r_M_row_16 : je X 61 16 [l0, some (.inl x), l2] S σ = je X 61 17 [l0, some (.inl x), l2] (.inl x :: S) σ := je_iload (show jm_fe 61 16 = some (jk_iload 1 1) from rfl) rfl
theorem r_M_row_17 : je X 61 17 [some (.inr r), l1, l2] S σ = je X 61 18 [some (.inr r), l1, l2] (.inr r :: S) σ := je_aload (show jm_fe 61 17 = some (jk_aload 0 1) from rfl) rfl
theorem r_M_row_18 : je X 61 18 L (.inr (.inl (some a)) :: S) σ = je_v X 61 21 L S σ (jm_gf σ.1 a 9 30) := je_getf (show jm_fe 61 18 = some (jk_getf 9 30) from rfl)
theorem r_M_row_21 : je X 61 21 L (.inl q :: .inl p :: S) σ = if q ≤ p then je X 61 40 L S σ else je X 61 24 L S σ := je_icmp_ge (show jm_fe 61 21 = some (jk_icmp .ge 40) from rfl)
theorem r_M_row_24 : je X 61 24 [l0, l1, some (.inl x)] S σ = je X 61 25 [l0, l1, some (.inl x)] (.inl x :: S) σ := je_iload (show jm_fe 61 24 = some (jk_iload 2 1) from rfl) rfl
theorem r_M_row_25 : je X 61 25 L (.inl p :: S) σ = if p < 0 then je X 61 40 L S σ else je X 61 28 L S σ := je_if_lt (show jm_fe 61 25 = some (jk_if .lt 40) from rfl)
theorem r_M_row_28 : je X 61 28 [l0, l1, some (.inl x)] S σ = je X 61 29 [l0, l1, some (.inl x)] (.inl x :: S) σ := je_iload (show jm_fe 61 28 = some (jk_iload 2 1) from rfl) rfl
theorem r_M_row_29 : je X 61 29 [some (.inr r), l1, l2] S σ = je X 61 30 [some (.inr r), l1, l2] (.inr r :: S) σ := je_aload (show jm_fe 61 29 = some (jk_aload 0 1) from rfl) rfl
theorem r_M_row_30 : je X 61 30 L (.inr (.inl (some a)) :: S) σ = je_v X 61 33 L S σ (jm_gf σ.1 a 9 33) := je_getf (show jm_fe 61 30 = some (jk_getf 9 33) from rfl)
theorem r_M_row_33 : je X 61 33 [l0, some (.inl x), l2] S σ = je X 61 34 [l0, some (.inl x), l2] (.inl x :: S) σ := je_iload (show jm_fe 61 33 = some (jk_iload 1 1) from rfl) rfl
theorem r_M_row_34 : je X 61 34 L S σ = je X 61 35 L (.inl 1 :: S) σ := je_const (show jm_fe 61 34 = some (jk_const 1 1) from rfl)
theorem r_M_row_35 : je X 61 35 L (.inl q :: .inl p :: S) σ = je X 61 36 L (.inl (p + q) :: S) σ := je_bin (show jm_fe 61 35 = some (jb_iadd) from rfl)
theorem r_M_row_36 : je X 61 36 L (.inl p :: .inr (.inl (some a)) :: S) σ = je_i X 61 37 L S σ (jm_al σ.1 a 0 p) := je_ald (show jm_fe 61 36 = some (jk_ald 0) from rfl)
theorem r_M_row_37 : je X 61 37 L (.inl q :: .inl p :: S) σ = if p < q then je X 61 42 L S σ else je X 61 40 L S σ := je_icmp_lt (show jm_fe 61 37 = some (jk_icmp .lt 42) from rfl)
theorem r_M_row_40 : je X 61 40 L S σ = je X 61 41 L (.inl 0 :: S) σ := je_const (show jm_fe 61 40 = some (jk_const 0 1) from rfl)
theorem r_M_row_41 : je X 61 41 L [.inl p] σ = some (some (.inl p), σ) := je_iret (show jm_fe 61 41 = some (jk_iret) from rfl)
theorem r_M_row_42 : je X 61 42 [some (.inr r), l1, l2] S σ = je X 61 43 [some (.inr r), l1, l2] (.inr r :: S) σ := je_aload (show jm_fe 61 42 = some (jk_aload 0 1) from rfl) rfl
theorem r_M_row_43 : je X 61 43 L (.inr (.inl (some a)) :: S) σ = je_v X 61 46 L S σ (jm_gf σ.1 a 9 34) := je_getf (show jm_fe 61 43 = some (jk_getf 9 34) from rfl)
theorem r_M_row_46 : je X 61 46 [some (.inr r), l1, l2] S σ = je X 61 47 [some (.inr r), l1, l2] (.inr r :: S) σ := je_aload (show jm_fe 61 46 = some (jk_aload 0 1) from rfl) rfl
theorem r_M_row_47 : je X 61 47 L (.inr (.inl (some a)) :: S) σ = je_v X 61 50 L S σ (jm_gf σ.1 a 9 32) := je_getf (show jm_fe 61 47 = some (jk_getf 9 32) from rfl)
theorem r_M_row_50 : je X 61 50 [l0, some (.inl x), l2] S σ = je X 61 51 [l0, some (.inl x), l2] (.inl x :: S) σ := je_iload (show jm_fe 61 50 = some (jk_iload 1 1) from rfl) rfl
theorem r_M_row_51 : je X 61 51 L S σ = je X 61 52 L (.inl 1 :: S) σ := je_const (show jm_fe 61 51 = some (jk_const 1 1) from rfl)
theorem r_M_row_52 : je X 61 52 L (.inl q :: .inl p :: S) σ = je X 61 53 L (.inl (p + q) :: S) σ := je_bin (show jm_fe 61 52 = some (jb_iadd) from rfl)
theorem r_M_row_53 : je X 61 53 L (.inl p :: .inr (.inl (some a)) :: S) σ = je_i X 61 54 L S σ (jm_al σ.1 a 0 p) := je_ald (show jm_fe 61 53 = some (jk_ald 0) from rfl)
theorem r_M_row_54 : je X 61 54 [l0, l1, some (.inl x)] S σ = je X 61 55 [l0, l1, some (.inl x)] (.inl x :: S) σ := je_iload (show jm_fe 61 54 = some (jk_iload 2 1) from rfl) rfl
theorem r_M_row_55 : je X 61 55 L (.inl q :: .inl p :: S) σ = je X 61 56 L (.inl (p + q) :: S) σ := je_bin (show jm_fe 61 55 = some (jb_iadd) from rfl)
theorem r_M_row_56 : je X 61 56 L (.inl p :: .inr (.inl (some a)) :: S) σ = je_i X 61 57 L S σ (jm_al σ.1 a 0 p) := je_ald (show jm_fe 61 56 = some (jk_ald 0) from rfl)
theorem r_M_row_57 : je X 61 57 L [.inl p] σ = some (some (.inl p), σ) := je_iret (show jm_fe 61 57 = some (jk_iret) from rfl)
theorem r_M_trace_0 : je X 62 0 [some (.inr r), l1, l2] S σ = je X 62 1 [some (.inr r), l1, l2] (.inr r :: S) σ := je_aload (show jm_fe 62 0 = some (jk_aload 0 1) from rfl) rfl
theorem r_M_trace_1 : je X 62 1 L S σ = je X 62 2 L (.inl 0 :: S) σ := je_const (show jm_fe 62 1 = some (jk_const 0 1) from rfl)
theorem r_M_trace_2 : je X 62 2 L (v :: .inr (.inl (some a)) :: S) σ = je_h X 62 5 L S σ.2 (jm_pf σ.1 a 9 0 0 v) := je_putf (show jm_fe 62 2 = some (jk_putf 9 0 0) from rfl)
theorem r_M_trace_5 : je X 62 5 [some (.inr r), l1, l2] S σ = je X 62 6 [some (.inr r), l1, l2] (.inr r :: S) σ := je_aload (show jm_fe 62 5 = some (jk_aload 0 1) from rfl) rfl
theorem r_M_trace_6 : je X 62 6 L (.inr (.inl (some a)) :: S) σ = je_v X 62 9 L S σ (jm_gf σ.1 a 9 16) := je_getf (show jm_fe 62 6 = some (jk_getf 9 16) from rfl)
theorem r_M_trace_9 : je X 62 9 L (.inl p :: S) σ = if p = 0 then je X 62 39 L S σ else je X 62 12 L S σ := je_if_eq (show jm_fe 62 9 = some (jk_if .eq 39) from rfl)
theorem r_M_trace_12 : je X 62 12 [l0, some (.inl x), l2] S σ = je X 62 13 [l0, some (.inl x), l2] (.inl x :: S) σ := je_iload (show jm_fe 62 12 = some (jk_iload 1 1) from rfl) rfl
theorem r_M_trace_13 : je X 62 13 L (.inl p :: S) σ = if p < 0 then je X 62 39 L S σ else je X 62 16 L S σ := je_if_lt (show jm_fe 62 13 = some (jk_if .lt 39) from rfl)
theorem r_M_trace_16 : je X 62 16 [l0, some (.inl x), l2] S σ = je X 62 17 [l0, some (.inl x), l2] (.inl x :: S) σ := je_iload (show jm_fe 62 16 = some (jk_iload 1 1) from rfl) rfl
theorem r_M_trace_17 : je X 62 17 [some (.inr r), l1, l2] S σ = je X 62 18 [some (.inr r), l1, l2] (.inr r :: S) σ := je_aload (show jm_fe 62 17 = some (jk_aload 0 1) from rfl) rfl
theorem r_M_trace_18 : je X 62 18 L (.inr (.inl (some a)) :: S) σ = je_v X 62 21 L S σ (jm_gf σ.1 a 9 20) := je_getf (show jm_fe 62 18 = some (jk_getf 9 20) from rfl)
theorem r_M_trace_21 : je X 62 21 L (.inl q :: .inl p :: S) σ = if q ≤ p then je X 62 39 L S σ else je X 62 24 L S σ := je_icmp_ge (show jm_fe 62 21 = some (jk_icmp .ge 39) from rfl)
theorem r_M_trace_24 : je X 62 24 [l0, some (.inl x), l2] S σ = je X 62 25 [l0, some (.inl x), l2] (.inl x :: S) σ := je_iload (show jm_fe 62 24 = some (jk_iload 1 1) from rfl) rfl
theorem r_M_trace_25 : je X 62 25 L S σ = je X 62 27 L (.inl 63 :: S) σ := je_const (show jm_fe 62 25 = some (jk_const (63) 2) from rfl)
theorem r_M_trace_27 : je X 62 27 L (.inl q :: .inl p :: S) σ = if q < p then je X 62 39 L S σ else je X 62 30 L S σ := je_icmp_gt (show jm_fe 62 27 = some (jk_icmp .gt 39) from rfl)
theorem r_M_trace_30 : je X 62 30 [l0, l1, some (.inl x)] S σ = je X 62 31 [l0, l1, some (.inl x)] (.inl x :: S) σ := je_iload (show jm_fe 62 30 = some (jk_iload 2 1) from rfl) rfl
theorem r_M_trace_31 : je X 62 31 L (.inl p :: S) σ = if p < 0 then je X 62 39 L S σ else je X 62 34 L S σ := je_if_lt (show jm_fe 62 31 = some (jk_if .lt 39) from rfl)
theorem r_M_trace_34 : je X 62 34 [l0, l1, some (.inl x)] S σ = je X 62 35 [l0, l1, some (.inl x)] (.inl x :: S) σ := je_iload (show jm_fe 62 34 = some (jk_iload 2 1) from rfl) rfl
theorem r_M_trace_35 : je X 62 35 L S σ = je X 62 36 L (.inl 4 :: S) σ := je_const (show jm_fe 62 35 = some (jk_const 4 1) from rfl)
theorem r_M_trace_36 : je X 62 36 L (.inl q :: .inl p :: S) σ = if p ≤ q then je X 62 41 L S σ else je X 62 39 L S σ := je_icmp_le (show jm_fe 62 36 = some (jk_icmp .le 41) from rfl)
theorem r_M_trace_39 : je X 62 39 L S σ = je X 62 40 L (.inl 0 :: S) σ := je_const (show jm_fe 62 39 = some (jk_const 0 1) from rfl)
theorem r_M_trace_40 : je X 62 40 L [.inl p] σ = some (some (.inl p), σ) := je_iret (show jm_fe 62 40 = some (jk_iret) from rfl)
theorem r_M_trace_41 : je X 62 41 [some (.inr r), l1, l2] S σ = je X 62 42 [some (.inr r), l1, l2] (.inr r :: S) σ := je_aload (show jm_fe 62 41 = some (jk_aload 0 1) from rfl) rfl
theorem r_M_trace_42 : je X 62 42 L (.inr (.inl (some a)) :: S) σ = je_v X 62 45 L S σ (jm_gf σ.1 a 9 35) := je_getf (show jm_fe 62 42 = some (jk_getf 9 35) from rfl)
theorem r_M_trace_45 : je X 62 45 L S σ = je X 62 46 L (.inl 5 :: S) σ := je_const (show jm_fe 62 45 = some (jk_const 5 1) from rfl)
theorem r_M_trace_46 : je X 62 46 [l0, some (.inl x), l2] S σ = je X 62 47 [l0, some (.inl x), l2] (.inl x :: S) σ := je_iload (show jm_fe 62 46 = some (jk_iload 1 1) from rfl) rfl
theorem r_M_trace_47 : je X 62 47 L (.inl q :: .inl p :: S) σ = je X 62 48 L (.inl (p * q) :: S) σ := je_bin (show jm_fe 62 47 = some (jb_imul) from rfl)
theorem r_M_trace_48 : je X 62 48 [l0, l1, some (.inl x)] S σ = je X 62 49 [l0, l1, some (.inl x)] (.inl x :: S) σ := je_iload (show jm_fe 62 48 = some (jk_iload 2 1) from rfl) rfl
theorem r_M_trace_49 : je X 62 49 L (.inl q :: .inl p :: S) σ = je X 62 50 L (.inl (p + q) :: S) σ := je_bin (show jm_fe 62 49 = some (jb_iadd) from rfl)
theorem r_M_trace_50 : je X 62 50 L (.inl p :: .inr (.inl (some a)) :: S) σ = je_i X 62 51 L S σ (jm_al σ.1 a 0 p) := je_ald (show jm_fe 62 50 = some (jk_ald 0) from rfl)
theorem r_M_trace_51 : je X 62 51 L [.inl p] σ = some (some (.inl p), σ) := je_iret (show jm_fe 62 51 = some (jk_iret) from rfl)
theorem r_M_look_0 : je X 63 0 [some (.inr r), l1] S σ = je X 63 1 [some (.inr r), l1] (.inr r :: S) σ := je_aload (show jm_fe 63 0 = some (jk_aload 0 1) from rfl) rfl
theorem r_M_look_1 : je X 63 1 L S σ = je X 63 2 L (.inl 0 :: S) σ := je_const (show jm_fe 63 1 = some (jk_const 0 1) from rfl)
theorem r_M_look_2 : je X 63 2 L (v :: .inr (.inl (some a)) :: S) σ = je_h X 63 5 L S σ.2 (jm_pf σ.1 a 9 0 0 v) := je_putf (show jm_fe 63 2 = some (jk_putf 9 0 0) from rfl)
theorem r_M_look_5 : je X 63 5 [l0, some (.inl x)] S σ = je X 63 6 [l0, some (.inl x)] (.inl x :: S) σ := je_iload (show jm_fe 63 5 = some (jk_iload 1 1) from rfl) rfl
theorem r_M_look_6 : je X 63 6 L S σ = je X 63 8 L (.inl 8 :: S) σ := je_const (show jm_fe 63 6 = some (jk_const (8) 2) from rfl)
theorem r_M_look_8 : je X 63 8 L (.inl q :: .inl p :: S) σ = if p = q then je X 63 11 L S σ else je X 63 16 L S σ := je_icmp_ne (show jm_fe 63 8 = some (jk_icmp .ne 16) from rfl)
theorem r_M_look_11 : je X 63 11 [some (.inr r), l1] S σ = je X 63 12 [some (.inr r), l1] (.inr r :: S) σ := je_aload (show jm_fe 63 11 = some (jk_aload 0 1) from rfl) rfl
theorem r_M_look_12 : je X 63 12 L (.inr (.inl (some a)) :: S) σ = je_v X 63 15 L S σ (jm_gf σ.1 a 9 1) := je_getf (show jm_fe 63 12 = some (jk_getf 9 1) from rfl)
theorem r_M_look_15 : je X 63 15 L [.inl p] σ = some (some (.inl p), σ) := je_iret (show jm_fe 63 15 = some (jk_iret) from rfl)
theorem r_M_look_16 : je X 63 16 [l0, some (.inl x)] S σ = je X 63 17 [l0, some (.inl x)] (.inl x :: S) σ := je_iload (show jm_fe 63 16 = some (jk_iload 1 1) from rfl) rfl
theorem r_M_look_17 : je X 63 17 L S σ = je X 63 19 L (.inl 9 :: S) σ := je_const (show jm_fe 63 17 = some (jk_const (9) 2) from rfl)
theorem r_M_look_19 : je X 63 19 L (.inl q :: .inl p :: S) σ = if p = q then je X 63 22 L S σ else je X 63 27 L S σ := je_icmp_ne (show jm_fe 63 19 = some (jk_icmp .ne 27) from rfl)
theorem r_M_look_22 : je X 63 22 [some (.inr r), l1] S σ = je X 63 23 [some (.inr r), l1] (.inr r :: S) σ := je_aload (show jm_fe 63 22 = some (jk_aload 0 1) from rfl) rfl
theorem r_M_look_23 : je X 63 23 L (.inr (.inl (some a)) :: S) σ = je_v X 63 26 L S σ (jm_gf σ.1 a 9 15) := je_getf (show jm_fe 63 23 = some (jk_getf 9 15) from rfl)
theorem r_M_look_26 : je X 63 26 L [.inl p] σ = some (some (.inl p), σ) := je_iret (show jm_fe 63 26 = some (jk_iret) from rfl)
theorem r_M_look_27 : je X 63 27 [some (.inr r), l1] S σ = je X 63 28 [some (.inr r), l1] (.inr r :: S) σ := je_aload (show jm_fe 63 27 = some (jk_aload 0 1) from rfl) rfl
theorem r_M_look_28 : je X 63 28 L (.inr (.inl (some a)) :: S) σ = je_v X 63 31 L S σ (jm_gf σ.1 a 9 16) := je_getf (show jm_fe 63 28 = some (jk_getf 9 16) from rfl)
theorem r_M_look_31 : je X 63 31 L (.inl p :: S) σ = if p = 0 then je X 63 34 L S σ else je X 63 50 L S σ := je_if_ne (show jm_fe 63 31 = some (jk_if .ne 50) from rfl)
theorem r_M_look_34 : je X 63 34 [l0, some (.inl x)] S σ = je X 63 35 [l0, some (.inl x)] (.inl x :: S) σ := je_iload (show jm_fe 63 34 = some (jk_iload 1 1) from rfl) rfl
theorem r_M_look_35 : je X 63 35 L (.inl p :: S) σ = if p ≤ 0 then je X 63 48 L S σ else je X 63 38 L S σ := je_if_le (show jm_fe 63 35 = some (jk_if .le 48) from rfl)
theorem r_M_look_38 : je X 63 38 [l0, some (.inl x)] S σ = je X 63 39 [l0, some (.inl x)] (.inl x :: S) σ := je_iload (show jm_fe 63 38 = some (jk_iload 1 1) from rfl) rfl
theorem r_M_look_39 : je X 63 39 L S σ = je X 63 41 L (.inl 8 :: S) σ := je_const (show jm_fe 63 39 = some (jk_const (8) 2) from rfl)
theorem r_M_look_41 : je X 63 41 L (.inl q :: .inl p :: S) σ = if q ≤ p then je X 63 48 L S σ else je X 63 44 L S σ := je_icmp_ge (show jm_fe 63 41 = some (jk_icmp .ge 48) from rfl)
theorem r_M_look_44 : je X 63 44 L S σ = je X 63 45 L (.inl 0 :: S) σ := je_const (show jm_fe 63 44 = some (jk_const 0 1) from rfl)
theorem r_M_look_45 : je X 63 45 L S σ = je X 63 49 L S σ := je_goto (show jm_fe 63 45 = some (jk_goto 49) from rfl)
theorem r_M_look_48 : je X 63 48 L S σ = je X 63 49 L (.inl (-1) :: S) σ := je_const (show jm_fe 63 48 = some (jk_const (-1) 1) from rfl)
theorem r_M_look_49 : je X 63 49 L [.inl p] σ = some (some (.inl p), σ) := je_iret (show jm_fe 63 49 = some (jk_iret) from rfl)
theorem r_M_look_50 : je X 63 50 [l0, some (.inl x)] S σ = je X 63 51 [l0, some (.inl x)] (.inl x :: S) σ := je_iload (show jm_fe 63 50 = some (jk_iload 1 1) from rfl) rfl
theorem r_M_look_51 : je X 63 51 L (.inl p :: S) σ = je X 63 (jm_sw [(0, 96), (1, 101), (2, 118), (3, 123), (4, 128), (5, 133), (6, 138), (7, 143)] 148 p) L S σ := je_sw (show jm_fe 63 51 = some (jk_sw [(0, 96), (1, 101), (2, 118), (3, 123), (4, 128), (5, 133), (6, 138), (7, 143)] 148) from rfl)
theorem r_M_look_96 : je X 63 96 [some (.inr r), l1] S σ = je X 63 97 [some (.inr r), l1] (.inr r :: S) σ := je_aload (show jm_fe 63 96 = some (jk_aload 0 1) from rfl) rfl
theorem r_M_look_97 : je X 63 97 L (.inr (.inl (some a)) :: S) σ = je_v X 63 100 L S σ (jm_gf σ.1 a 9 17) := je_getf (show jm_fe 63 97 = some (jk_getf 9 17) from rfl)
theorem r_M_look_100 : je X 63 100 L [.inl p] σ = some (some (.inl p), σ) := je_iret (show jm_fe 63 100 = some (jk_iret) from rfl)
theorem r_M_look_101 : je X 63 101 [some (.inr r), l1] S σ = je X 63 102 [some (.inr r), l1] (.inr r :: S) σ := je_aload (show jm_fe 63 101 = some (jk_aload 0 1) from rfl) rfl
theorem r_M_look_102 : je X 63 102 L (.inr (.inl (some a)) :: S) σ = je_v X 63 105 L S σ (jm_gf σ.1 a 9 17) := je_getf (show jm_fe 63 102 = some (jk_getf 9 17) from rfl)
theorem r_M_look_105 : je X 63 105 L S σ = je X 63 106 L (.inl (-1) :: S) σ := je_const (show jm_fe 63 105 = some (jk_const (-1) 1) from rfl)
theorem r_M_look_106 : je X 63 106 L (.inl q :: .inl p :: S) σ = if p = q then je X 63 109 L S σ else je X 63 113 L S σ := je_icmp_ne (show jm_fe 63 106 = some (jk_icmp .ne 113) from rfl)
theorem r_M_look_109 : je X 63 109 L S σ = je X 63 110 L (.inl 0 :: S) σ := je_const (show jm_fe 63 109 = some (jk_const 0 1) from rfl)
theorem r_M_look_110 : je X 63 110 L S σ = je X 63 117 L S σ := je_goto (show jm_fe 63 110 = some (jk_goto 117) from rfl)
theorem r_M_look_113 : je X 63 113 [some (.inr r), l1] S σ = je X 63 114 [some (.inr r), l1] (.inr r :: S) σ := je_aload (show jm_fe 63 113 = some (jk_aload 0 1) from rfl) rfl
theorem r_M_look_114 : je X 63 114 L (.inr (.inl (some a)) :: S) σ = je_v X 63 117 L S σ (jm_gf σ.1 a 9 18) := je_getf (show jm_fe 63 114 = some (jk_getf 9 18) from rfl)
theorem r_M_look_117 : je X 63 117 L [.inl p] σ = some (some (.inl p), σ) := je_iret (show jm_fe 63 117 = some (jk_iret) from rfl)
theorem r_M_look_118 : je X 63 118 [some (.inr r), l1] S σ = je X 63 119 [some (.inr r), l1] (.inr r :: S) σ := je_aload (show jm_fe 63 118 = some (jk_aload 0 1) from rfl) rfl
theorem r_M_look_119 : je X 63 119 L (.inr (.inl (some a)) :: S) σ = je_v X 63 122 L S σ (jm_gf σ.1 a 9 19) := je_getf (show jm_fe 63 119 = some (jk_getf 9 19) from rfl)
theorem r_M_look_122 : je X 63 122 L [.inl p] σ = some (some (.inl p), σ) := je_iret (show jm_fe 63 122 = some (jk_iret) from rfl)
theorem r_M_look_123 : je X 63 123 [some (.inr r), l1] S σ = je X 63 124 [some (.inr r), l1] (.inr r :: S) σ := je_aload (show jm_fe 63 123 = some (jk_aload 0 1) from rfl) rfl
theorem r_M_look_124 : je X 63 124 L (.inr (.inl (some a)) :: S) σ = je_v X 63 127 L S σ (jm_gf σ.1 a 9 20) := je_getf (show jm_fe 63 124 = some (jk_getf 9 20) from rfl)
theorem r_M_look_127 : je X 63 127 L [.inl p] σ = some (some (.inl p), σ) := je_iret (show jm_fe 63 127 = some (jk_iret) from rfl)
theorem r_M_look_128 : je X 63 128 [some (.inr r), l1] S σ = je X 63 129 [some (.inr r), l1] (.inr r :: S) σ := je_aload (show jm_fe 63 128 = some (jk_aload 0 1) from rfl) rfl
theorem r_M_look_129 : je X 63 129 L (.inr (.inl (some a)) :: S) σ = je_v X 63 132 L S σ (jm_gf σ.1 a 9 22) := je_getf (show jm_fe 63 129 = some (jk_getf 9 22) from rfl)
theorem r_M_look_132 : je X 63 132 L [.inl p] σ = some (some (.inl p), σ) := je_iret (show jm_fe 63 132 = some (jk_iret) from rfl)
theorem r_M_look_133 : je X 63 133 [some (.inr r), l1] S σ = je X 63 134 [some (.inr r), l1] (.inr r :: S) σ := je_aload (show jm_fe 63 133 = some (jk_aload 0 1) from rfl) rfl
theorem r_M_look_134 : je X 63 134 L (.inr (.inl (some a)) :: S) σ = je_v X 63 137 L S σ (jm_gf σ.1 a 9 21) := je_getf (show jm_fe 63 134 = some (jk_getf 9 21) from rfl)
theorem r_M_look_137 : je X 63 137 L [.inl p] σ = some (some (.inl p), σ) := je_iret (show jm_fe 63 137 = some (jk_iret) from rfl)
theorem r_M_look_138 : je X 63 138 [some (.inr r), l1] S σ = je X 63 139 [some (.inr r), l1] (.inr r :: S) σ := je_aload (show jm_fe 63 138 = some (jk_aload 0 1) from rfl) rfl
theorem r_M_look_139 : je X 63 139 L (.inr (.inl (some a)) :: S) σ = je_v X 63 142 L S σ (jm_gf σ.1 a 9 30) := je_getf (show jm_fe 63 139 = some (jk_getf 9 30) from rfl)
theorem r_M_look_142 : je X 63 142 L [.inl p] σ = some (some (.inl p), σ) := je_iret (show jm_fe 63 142 = some (jk_iret) from rfl)
theorem r_M_look_143 : je X 63 143 [some (.inr r), l1] S σ = je X 63 144 [some (.inr r), l1] (.inr r :: S) σ := je_aload (show jm_fe 63 143 = some (jk_aload 0 1) from rfl) rfl
theorem r_M_look_144 : je X 63 144 L (.inr (.inl (some a)) :: S) σ = je_v X 63 147 L S σ (jm_gf σ.1 a 9 31) := je_getf (show jm_fe 63 144 = some (jk_getf 9 31) from rfl)
theorem r_M_look_147 : je X 63 147 L [.inl p] σ = some (some (.inl p), σ) := je_iret (show jm_fe 63 147 = some (jk_iret) from rfl)
theorem r_M_look_148 : je X 63 148 L S σ = je X 63 149 L (.inl (-1) :: S) σ := je_const (show jm_fe 63 148 = some (jk_const (-1) 1) from rfl)
theorem r_M_look_149 : je X 63 149 L [.inl p] σ = some (some (.inl p), σ) := je_iret (show jm_fe 63 149 = some (jk_iret) from rfl)
theorem r_Answers_empty_0 : je X 65 0 [some (.inr r)] S σ = je X 65 1 [some (.inr r)] (.inr r :: S) σ := je_aload (show jm_fe 65 0 = some (jk_aload 0 1) from rfl) rfl
theorem r_Answers_empty_1 : je X 65 1 L S σ = je X 65 2 L (.inl 0 :: S) σ := je_const (show jm_fe 65 1 = some (jk_const 0 1) from rfl)
theorem r_Answers_empty_2 : je X 65 2 L (v :: .inr (.inl (some a)) :: S) σ = je_h X 65 5 L S σ.2 (jm_pf σ.1 a 3 1 0 v) := je_putf (show jm_fe 65 2 = some (jk_putf 3 1 0) from rfl)
theorem r_Answers_empty_5 : je X 65 5 L [] σ = some (none, σ) := je_ret (show jm_fe 65 5 = some (jk_ret) from rfl)
theorem r_Answers_give_0 : je X 66 0 [some (.inr r), l1] S σ = je X 66 1 [some (.inr r), l1] (.inr r :: S) σ := je_aload (show jm_fe 66 0 = some (jk_aload 0 1) from rfl) rfl
theorem r_Answers_give_1 : je X 66 1 L (.inr (.inl (some a)) :: S) σ = je_v X 66 4 L S σ (jm_gf σ.1 a 3 1) := je_getf (show jm_fe 66 1 = some (jk_getf 3 1) from rfl)
theorem r_Answers_give_4 : je X 66 4 L S σ = je X 66 6 L (.inl 64 :: S) σ := je_const (show jm_fe 66 4 = some (jk_const (64) 2) from rfl)
theorem r_Answers_give_6 : je X 66 6 L (.inl q :: .inl p :: S) σ = if p < q then je X 66 11 L S σ else je X 66 9 L S σ := je_icmp_lt (show jm_fe 66 6 = some (jk_icmp .lt 11) from rfl)
theorem r_Answers_give_9 : je X 66 9 L S σ = je X 66 10 L (.inl (-1) :: S) σ := je_const (show jm_fe 66 9 = some (jk_const (-1) 1) from rfl)
theorem r_Answers_give_10 : je X 66 10 L [.inl p] σ = some (some (.inl p), σ) := je_iret (show jm_fe 66 10 = some (jk_iret) from rfl)
theorem r_Answers_give_11 : je X 66 11 [some (.inr r), l1] S σ = je X 66 12 [some (.inr r), l1] (.inr r :: S) σ := je_aload (show jm_fe 66 11 = some (jk_aload 0 1) from rfl) rfl
theorem r_Answers_give_12 : je X 66 12 L (.inr (.inl (some a)) :: S) σ = je_v X 66 15 L S σ (jm_gf σ.1 a 3 0) := je_getf (show jm_fe 66 12 = some (jk_getf 3 0) from rfl)
theorem r_Answers_give_15 : je X 66 15 [some (.inr r), l1] S σ = je X 66 16 [some (.inr r), l1] (.inr r :: S) σ := je_aload (show jm_fe 66 15 = some (jk_aload 0 1) from rfl) rfl
theorem r_Answers_give_16 : je X 66 16 L (.inr (.inl (some a)) :: S) σ = je_v X 66 19 L S σ (jm_gf σ.1 a 3 1) := je_getf (show jm_fe 66 16 = some (jk_getf 3 1) from rfl)
theorem r_Answers_give_19 : je X 66 19 [l0, some (.inl x)] S σ = je X 66 20 [l0, some (.inl x)] (.inl x :: S) σ := je_iload (show jm_fe 66 19 = some (jk_iload 1 1) from rfl) rfl
theorem r_Answers_give_20 : je X 66 20 L (.inl q :: .inl p :: .inr (.inl (some a)) :: S) σ = je_h X 66 21 L S σ.2 (jm_as σ.1 a 0 p q) := je_iast (show jm_fe 66 20 = some (jk_iast) from rfl)
theorem r_Answers_give_21 : je X 66 21 [some (.inr r), l1] S σ = je X 66 22 [some (.inr r), l1] (.inr r :: S) σ := je_aload (show jm_fe 66 21 = some (jk_aload 0 1) from rfl) rfl
theorem r_Answers_give_22 : je X 66 22 L (v :: S) σ = je X 66 23 L (v :: v :: S) σ := je_dup (show jm_fe 66 22 = some (jk_dup) from rfl)
theorem r_Answers_give_23 : je X 66 23 L (.inr (.inl (some a)) :: S) σ = je_v X 66 26 L S σ (jm_gf σ.1 a 3 1) := je_getf (show jm_fe 66 23 = some (jk_getf 3 1) from rfl)
theorem r_Answers_give_26 : je X 66 26 L S σ = je X 66 27 L (.inl 1 :: S) σ := je_const (show jm_fe 66 26 = some (jk_const 1 1) from rfl)
theorem r_Answers_give_27 : je X 66 27 L (.inl q :: .inl p :: S) σ = je X 66 28 L (.inl (p + q) :: S) σ := je_bin (show jm_fe 66 27 = some (jb_iadd) from rfl)
theorem r_Answers_give_28 : je X 66 28 L (v :: .inr (.inl (some a)) :: S) σ = je_h X 66 31 L S σ.2 (jm_pf σ.1 a 3 1 0 v) := je_putf (show jm_fe 66 28 = some (jk_putf 3 1 0) from rfl)
theorem r_Answers_give_31 : je X 66 31 [some (.inr r), l1] S σ = je X 66 32 [some (.inr r), l1] (.inr r :: S) σ := je_aload (show jm_fe 66 31 = some (jk_aload 0 1) from rfl) rfl
theorem r_Answers_give_32 : je X 66 32 L (.inr (.inl (some a)) :: S) σ = je_v X 66 35 L S σ (jm_gf σ.1 a 3 1) := je_getf (show jm_fe 66 32 = some (jk_getf 3 1) from rfl)
theorem r_Answers_give_35 : je X 66 35 L [.inl p] σ = some (some (.inl p), σ) := je_iret (show jm_fe 66 35 = some (jk_iret) from rfl)
theorem r_Answers_at_0 : je X 67 0 [l0, some (.inl x)] S σ = je X 67 1 [l0, some (.inl x)] (.inl x :: S) σ := je_iload (show jm_fe 67 0 = some (jk_iload 1 1) from rfl) rfl
theorem r_Answers_at_1 : je X 67 1 L (.inl p :: S) σ = if p < 0 then je X 67 21 L S σ else je X 67 4 L S σ := je_if_lt (show jm_fe 67 1 = some (jk_if .lt 21) from rfl)
theorem r_Answers_at_4 : je X 67 4 [l0, some (.inl x)] S σ = je X 67 5 [l0, some (.inl x)] (.inl x :: S) σ := je_iload (show jm_fe 67 4 = some (jk_iload 1 1) from rfl) rfl
theorem r_Answers_at_5 : je X 67 5 [some (.inr r), l1] S σ = je X 67 6 [some (.inr r), l1] (.inr r :: S) σ := je_aload (show jm_fe 67 5 = some (jk_aload 0 1) from rfl) rfl
theorem r_Answers_at_6 : je X 67 6 L (.inr (.inl (some a)) :: S) σ = je_v X 67 9 L S σ (jm_gf σ.1 a 3 1) := je_getf (show jm_fe 67 6 = some (jk_getf 3 1) from rfl)
theorem r_Answers_at_9 : je X 67 9 L (.inl q :: .inl p :: S) σ = if q ≤ p then je X 67 21 L S σ else je X 67 12 L S σ := je_icmp_ge (show jm_fe 67 9 = some (jk_icmp .ge 21) from rfl)
theorem r_Answers_at_12 : je X 67 12 [some (.inr r), l1] S σ = je X 67 13 [some (.inr r), l1] (.inr r :: S) σ := je_aload (show jm_fe 67 12 = some (jk_aload 0 1) from rfl) rfl
theorem r_Answers_at_13 : je X 67 13 L (.inr (.inl (some a)) :: S) σ = je_v X 67 16 L S σ (jm_gf σ.1 a 3 0) := je_getf (show jm_fe 67 13 = some (jk_getf 3 0) from rfl)
theorem r_Answers_at_16 : je X 67 16 [l0, some (.inl x)] S σ = je X 67 17 [l0, some (.inl x)] (.inl x :: S) σ := je_iload (show jm_fe 67 16 = some (jk_iload 1 1) from rfl) rfl
theorem r_Answers_at_17 : je X 67 17 L (.inl p :: .inr (.inl (some a)) :: S) σ = je_i X 67 18 L S σ (jm_al σ.1 a 0 p) := je_ald (show jm_fe 67 17 = some (jk_ald 0) from rfl)
theorem r_Answers_at_18 : je X 67 18 L S σ = je X 67 22 L S σ := je_goto (show jm_fe 67 18 = some (jk_goto 22) from rfl)
theorem r_Answers_at_21 : je X 67 21 L S σ = je X 67 22 L (.inl 0 :: S) σ := je_const (show jm_fe 67 21 = some (jk_const 0 1) from rfl)
theorem r_Answers_at_22 : je X 67 22 L [.inl p] σ = some (some (.inl p), σ) := je_iret (show jm_fe 67 22 = some (jk_iret) from rfl)
theorem r_Cells_resetTo_0 : je X 69 0 [some (.inr r), l1, l2] S σ = je X 69 1 [some (.inr r), l1, l2] (.inr r :: S) σ := je_aload (show jm_fe 69 0 = some (jk_aload 0 1) from rfl) rfl
theorem r_Cells_resetTo_1 : je X 69 1 L S σ = je X 69 2 L (.inl 0 :: S) σ := je_const (show jm_fe 69 1 = some (jk_const 0 1) from rfl)
theorem r_Cells_resetTo_2 : je X 69 2 [l0, some (.inl x), l2] S σ = je X 69 3 [l0, some (.inl x), l2] (.inl x :: S) σ := je_iload (show jm_fe 69 2 = some (jk_iload 1 1) from rfl) rfl
theorem r_Cells_resetTo_3 : je X 69 3 [some (.inr r), l1, l2] S σ = je X 69 4 [some (.inr r), l1, l2] (.inr r :: S) σ := je_aload (show jm_fe 69 3 = some (jk_aload 0 1) from rfl) rfl
theorem r_Cells_resetTo_4 : je X 69 4 L (.inr (.inl (some a)) :: S) σ = je_v X 69 7 L S σ (jm_gf σ.1 a 6 0) := je_getf (show jm_fe 69 4 = some (jk_getf 6 0) from rfl)
theorem r_Cells_resetTo_7 : je X 69 7 L (.inr (.inl (some a)) :: S) σ = je_i X 69 8 L S σ (jm_an σ.1 a 4) := je_alen (show jm_fe 69 7 = some (jk_alen 4) from rfl)
theorem r_Cells_resetTo_8 (h8 : S.length ≤ 8) : je X 69 8 L (.inl q :: .inl p :: S) σ = je X 69 11 L (.inl (if q < p then q else p) :: S) σ := je_min (show jm_fe 69 8 = some (jk_min) from rfl) h8
theorem r_Cells_resetTo_11 (h8 : S.length ≤ 8) : je X 69 11 L (.inl q :: .inl p :: S) σ = je X 69 14 L (.inl (if p < q then q else p) :: S) σ := je_max (show jm_fe 69 11 = some (jk_max) from rfl) h8
theorem r_Cells_resetTo_14 : je X 69 14 L (v :: .inr (.inl (some a)) :: S) σ = je_h X 69 17 L S σ.2 (jm_pf σ.1 a 6 2 0 v) := je_putf (show jm_fe 69 14 = some (jk_putf 6 2 0) from rfl)
theorem r_Cells_resetTo_17 : je X 69 17 L S σ = je X 69 18 L (.inl 0 :: S) σ := je_const (show jm_fe 69 17 = some (jk_const 0 1) from rfl)
theorem r_Cells_resetTo_18 : je X 69 18 [l0, l1, l2] (.inl x :: S) σ = je X 69 19 [l0, l1, some (.inl x)] S σ := je_istore (show jm_fe 69 18 = some (jk_istore 2 1) from rfl) (Nat.le_of_ble_eq_true rfl)
theorem r_Cells_resetTo_19 : je X 69 19 [l0, l1, some (.inl x)] S σ = je X 69 20 [l0, l1, some (.inl x)] (.inl x :: S) σ := je_iload (show jm_fe 69 19 = some (jk_iload 2 1) from rfl) rfl
theorem r_Cells_resetTo_20 : je X 69 20 [some (.inr r), l1, l2] S σ = je X 69 21 [some (.inr r), l1, l2] (.inr r :: S) σ := je_aload (show jm_fe 69 20 = some (jk_aload 0 1) from rfl) rfl
theorem r_Cells_resetTo_21 : je X 69 21 L (.inr (.inl (some a)) :: S) σ = je_v X 69 24 L S σ (jm_gf σ.1 a 6 2) := je_getf (show jm_fe 69 21 = some (jk_getf 6 2) from rfl)
theorem r_Cells_resetTo_24 : je X 69 24 L (.inl q :: .inl p :: S) σ = if q ≤ p then je X 69 47 L S σ else je X 69 27 L S σ := je_icmp_ge (show jm_fe 69 24 = some (jk_icmp .ge 47) from rfl)
theorem r_Cells_resetTo_27 : je X 69 27 [some (.inr r), l1, l2] S σ = je X 69 28 [some (.inr r), l1, l2] (.inr r :: S) σ := je_aload (show jm_fe 69 27 = some (jk_aload 0 1) from rfl) rfl
theorem r_Cells_resetTo_28 : je X 69 28 L (.inr (.inl (some a)) :: S) σ = je_v X 69 31 L S σ (jm_gf σ.1 a 6 0) := je_getf (show jm_fe 69 28 = some (jk_getf 6 0) from rfl)
theorem r_Cells_resetTo_31 : je X 69 31 [l0, l1, some (.inl x)] S σ = je X 69 32 [l0, l1, some (.inl x)] (.inl x :: S) σ := je_iload (show jm_fe 69 31 = some (jk_iload 2 1) from rfl) rfl
theorem r_Cells_resetTo_32 : je X 69 32 L S σ = je X 69 33 L (.inl 0 :: S) σ := je_const (show jm_fe 69 32 = some (jk_const 0 1) from rfl)
theorem r_Cells_resetTo_33 : je X 69 33 L (.inl q :: .inl p :: .inr (.inl (some a)) :: S) σ = je_h X 69 34 L S σ.2 (jm_as σ.1 a 0 p q) := je_iast (show jm_fe 69 33 = some (jk_iast) from rfl)
theorem r_Cells_resetTo_34 : je X 69 34 [some (.inr r), l1, l2] S σ = je X 69 35 [some (.inr r), l1, l2] (.inr r :: S) σ := je_aload (show jm_fe 69 34 = some (jk_aload 0 1) from rfl) rfl
theorem r_Cells_resetTo_35 : je X 69 35 L (.inr (.inl (some a)) :: S) σ = je_v X 69 38 L S σ (jm_gf σ.1 a 6 1) := je_getf (show jm_fe 69 35 = some (jk_getf 6 1) from rfl)
theorem r_Cells_resetTo_38 : je X 69 38 [l0, l1, some (.inl x)] S σ = je X 69 39 [l0, l1, some (.inl x)] (.inl x :: S) σ := je_iload (show jm_fe 69 38 = some (jk_iload 2 1) from rfl) rfl
theorem r_Cells_resetTo_39 : je X 69 39 L S σ = je X 69 40 L (.inl 0 :: S) σ := je_const (show jm_fe 69 39 = some (jk_const 0 1) from rfl)
theorem r_Cells_resetTo_40 : je X 69 40 L (.inl q :: .inl p :: .inr (.inl (some a)) :: S) σ = je_h X 69 41 L S σ.2 (jm_as σ.1 a 0 p q) := je_iast (show jm_fe 69 40 = some (jk_iast) from rfl)
theorem r_Cells_resetTo_41 : je X 69 41 [l0, l1, some (.inl x)] S σ = je X 69 44 [l0, l1, some (.inl (x + (1)))] S σ := je_iinc (show jm_fe 69 41 = some (jk_iinc 2 (1)) from rfl) rfl
theorem r_Cells_resetTo_44 : je X 69 44 L S σ = je X 69 19 L S σ := je_goto (show jm_fe 69 44 = some (jk_goto 19) from rfl)
theorem r_Cells_resetTo_47 : je X 69 47 L [] σ = some (none, σ) := je_ret (show jm_fe 69 47 = some (jk_ret) from rfl)
theorem r_Cells_isFull_0 : je X 70 0 [some (.inr r)] S σ = je X 70 1 [some (.inr r)] (.inr r :: S) σ := je_aload (show jm_fe 70 0 = some (jk_aload 0 1) from rfl) rfl
theorem r_Cells_isFull_1 : je X 70 1 L (.inr (.inl (some a)) :: S) σ = je_v X 70 4 L S σ (jm_gf σ.1 a 6 2) := je_getf (show jm_fe 70 1 = some (jk_getf 6 2) from rfl)
theorem r_Cells_isFull_4 : je X 70 4 [some (.inr r)] S σ = je X 70 5 [some (.inr r)] (.inr r :: S) σ := je_aload (show jm_fe 70 4 = some (jk_aload 0 1) from rfl) rfl
theorem r_Cells_isFull_5 : je X 70 5 L (.inr (.inl (some a)) :: S) σ = je_v X 70 8 L S σ (jm_gf σ.1 a 6 0) := je_getf (show jm_fe 70 5 = some (jk_getf 6 0) from rfl)
theorem r_Cells_isFull_8 : je X 70 8 L (.inr (.inl (some a)) :: S) σ = je_i X 70 9 L S σ (jm_an σ.1 a 4) := je_alen (show jm_fe 70 8 = some (jk_alen 4) from rfl)
theorem r_Cells_isFull_9 : je X 70 9 L (.inl q :: .inl p :: S) σ = if p < q then je X 70 16 L S σ else je X 70 12 L S σ := je_icmp_lt (show jm_fe 70 9 = some (jk_icmp .lt 16) from rfl)
theorem r_Cells_isFull_12 : je X 70 12 L S σ = je X 70 13 L (.inl 1 :: S) σ := je_const (show jm_fe 70 12 = some (jk_const 1 1) from rfl)
theorem r_Cells_isFull_13 : je X 70 13 L S σ = je X 70 17 L S σ := je_goto (show jm_fe 70 13 = some (jk_goto 17) from rfl)
theorem r_Cells_isFull_16 : je X 70 16 L S σ = je X 70 17 L (.inl 0 :: S) σ := je_const (show jm_fe 70 16 = some (jk_const 0 1) from rfl)
theorem r_Cells_isFull_17 (hx : p = 0 ∨ p = 1) : je X 70 17 L [.inl p] σ = some (some (.inl p), σ) := je_zret (show jm_fe 70 17 = some (jk_zret) from rfl) hx
theorem r_Cells_valueAt_0 : je X 71 0 [l0, some (.inl x)] S σ = je X 71 1 [l0, some (.inl x)] (.inl x :: S) σ := je_iload (show jm_fe 71 0 = some (jk_iload 1 1) from rfl) rfl
theorem r_Cells_valueAt_1 : je X 71 1 L (.inl p :: S) σ = if p < 0 then je X 71 21 L S σ else je X 71 4 L S σ := je_if_lt (show jm_fe 71 1 = some (jk_if .lt 21) from rfl)
theorem r_Cells_valueAt_4 : je X 71 4 [l0, some (.inl x)] S σ = je X 71 5 [l0, some (.inl x)] (.inl x :: S) σ := je_iload (show jm_fe 71 4 = some (jk_iload 1 1) from rfl) rfl
theorem r_Cells_valueAt_5 : je X 71 5 [some (.inr r), l1] S σ = je X 71 6 [some (.inr r), l1] (.inr r :: S) σ := je_aload (show jm_fe 71 5 = some (jk_aload 0 1) from rfl) rfl
theorem r_Cells_valueAt_6 : je X 71 6 L (.inr (.inl (some a)) :: S) σ = je_v X 71 9 L S σ (jm_gf σ.1 a 6 2) := je_getf (show jm_fe 71 6 = some (jk_getf 6 2) from rfl)
theorem r_Cells_valueAt_9 : je X 71 9 L (.inl q :: .inl p :: S) σ = if q ≤ p then je X 71 21 L S σ else je X 71 12 L S σ := je_icmp_ge (show jm_fe 71 9 = some (jk_icmp .ge 21) from rfl)
theorem r_Cells_valueAt_12 : je X 71 12 [some (.inr r), l1] S σ = je X 71 13 [some (.inr r), l1] (.inr r :: S) σ := je_aload (show jm_fe 71 12 = some (jk_aload 0 1) from rfl) rfl
theorem r_Cells_valueAt_13 : je X 71 13 L (.inr (.inl (some a)) :: S) σ = je_v X 71 16 L S σ (jm_gf σ.1 a 6 0) := je_getf (show jm_fe 71 13 = some (jk_getf 6 0) from rfl)
theorem r_Cells_valueAt_16 : je X 71 16 [l0, some (.inl x)] S σ = je X 71 17 [l0, some (.inl x)] (.inl x :: S) σ := je_iload (show jm_fe 71 16 = some (jk_iload 1 1) from rfl) rfl
theorem r_Cells_valueAt_17 : je X 71 17 L (.inl p :: .inr (.inl (some a)) :: S) σ = je_i X 71 18 L S σ (jm_al σ.1 a 0 p) := je_ald (show jm_fe 71 17 = some (jk_ald 0) from rfl)
theorem r_Cells_valueAt_18 : je X 71 18 L S σ = je X 71 22 L S σ := je_goto (show jm_fe 71 18 = some (jk_goto 22) from rfl)
theorem r_Cells_valueAt_21 : je X 71 21 L S σ = je X 71 22 L (.inl 0 :: S) σ := je_const (show jm_fe 71 21 = some (jk_const 0 1) from rfl)
theorem r_Cells_valueAt_22 : je X 71 22 L [.inl p] σ = some (some (.inl p), σ) := je_iret (show jm_fe 71 22 = some (jk_iret) from rfl)
theorem r_Cells_kindAt_0 : je X 72 0 [l0, some (.inl x)] S σ = je X 72 1 [l0, some (.inl x)] (.inl x :: S) σ := je_iload (show jm_fe 72 0 = some (jk_iload 1 1) from rfl) rfl
theorem r_Cells_kindAt_1 : je X 72 1 L (.inl p :: S) σ = if p < 0 then je X 72 21 L S σ else je X 72 4 L S σ := je_if_lt (show jm_fe 72 1 = some (jk_if .lt 21) from rfl)
theorem r_Cells_kindAt_4 : je X 72 4 [l0, some (.inl x)] S σ = je X 72 5 [l0, some (.inl x)] (.inl x :: S) σ := je_iload (show jm_fe 72 4 = some (jk_iload 1 1) from rfl) rfl
theorem r_Cells_kindAt_5 : je X 72 5 [some (.inr r), l1] S σ = je X 72 6 [some (.inr r), l1] (.inr r :: S) σ := je_aload (show jm_fe 72 5 = some (jk_aload 0 1) from rfl) rfl
theorem r_Cells_kindAt_6 : je X 72 6 L (.inr (.inl (some a)) :: S) σ = je_v X 72 9 L S σ (jm_gf σ.1 a 6 2) := je_getf (show jm_fe 72 6 = some (jk_getf 6 2) from rfl)
theorem r_Cells_kindAt_9 : je X 72 9 L (.inl q :: .inl p :: S) σ = if q ≤ p then je X 72 21 L S σ else je X 72 12 L S σ := je_icmp_ge (show jm_fe 72 9 = some (jk_icmp .ge 21) from rfl)
theorem r_Cells_kindAt_12 : je X 72 12 [some (.inr r), l1] S σ = je X 72 13 [some (.inr r), l1] (.inr r :: S) σ := je_aload (show jm_fe 72 12 = some (jk_aload 0 1) from rfl) rfl
theorem r_Cells_kindAt_13 : je X 72 13 L (.inr (.inl (some a)) :: S) σ = je_v X 72 16 L S σ (jm_gf σ.1 a 6 1) := je_getf (show jm_fe 72 13 = some (jk_getf 6 1) from rfl)
theorem r_Cells_kindAt_16 : je X 72 16 [l0, some (.inl x)] S σ = je X 72 17 [l0, some (.inl x)] (.inl x :: S) σ := je_iload (show jm_fe 72 16 = some (jk_iload 1 1) from rfl) rfl
theorem r_Cells_kindAt_17 : je X 72 17 L (.inl p :: .inr (.inl (some a)) :: S) σ = je_i X 72 18 L S σ (jm_al σ.1 a 0 p) := je_ald (show jm_fe 72 17 = some (jk_ald 0) from rfl)
theorem r_Cells_kindAt_18 : je X 72 18 L S σ = je X 72 22 L S σ := je_goto (show jm_fe 72 18 = some (jk_goto 22) from rfl)
theorem r_Cells_kindAt_21 : je X 72 21 L S σ = je X 72 22 L (.inl (-1) :: S) σ := je_const (show jm_fe 72 21 = some (jk_const (-1) 1) from rfl)
theorem r_Cells_kindAt_22 : je X 72 22 L [.inl p] σ = some (some (.inl p), σ) := je_iret (show jm_fe 72 22 = some (jk_iret) from rfl)
theorem r_Cells_top_0 : je X 73 0 [some (.inr r), l1] S σ = je X 73 1 [some (.inr r), l1] (.inr r :: S) σ := je_aload (show jm_fe 73 0 = some (jk_aload 0 1) from rfl) rfl
theorem r_Cells_top_1 : je X 73 1 [some (.inr r), l1] S σ = je X 73 2 [some (.inr r), l1] (.inr r :: S) σ := je_aload (show jm_fe 73 1 = some (jk_aload 0 1) from rfl) rfl
theorem r_Cells_top_2 : je X 73 2 L (.inr (.inl (some a)) :: S) σ = je_v X 73 5 L S σ (jm_gf σ.1 a 6 2) := je_getf (show jm_fe 73 2 = some (jk_getf 6 2) from rfl)
theorem r_Cells_top_5 : je X 73 5 L S σ = je X 73 6 L (.inl 1 :: S) σ := je_const (show jm_fe 73 5 = some (jk_const 1 1) from rfl)
theorem r_Cells_top_6 : je X 73 6 L (.inl q :: .inl p :: S) σ = je X 73 7 L (.inl (p - q) :: S) σ := je_bin (show jm_fe 73 6 = some (jb_isub) from rfl)
theorem r_Cells_top_7 : je X 73 7 [l0, some (.inl x)] S σ = je X 73 8 [l0, some (.inl x)] (.inl x :: S) σ := je_iload (show jm_fe 73 7 = some (jk_iload 1 1) from rfl) rfl
theorem r_Cells_top_8 : je X 73 8 L (.inl q :: .inl p :: S) σ = je X 73 9 L (.inl (p - q) :: S) σ := je_bin (show jm_fe 73 8 = some (jb_isub) from rfl)
theorem r_Cells_top_9 (hc : jm_cl σ.1 a = some 6) (h8 : S.length ≤ 8) : je X 73 9 L (v0 :: .inr (.inl (some a)) :: S) σ = je_c X 73 12 L S (je X 71 0 [some (.inr (.inl (some a))), some v0] [] σ) := je_callV (as := [v0]) (S' := S) (show jm_fe 73 9 = some (jk_callV 71 1 6) from rfl) rfl hc h8
theorem r_Cells_top_12 : je X 73 12 L [.inl p] σ = some (some (.inl p), σ) := je_iret (show jm_fe 73 12 = some (jk_iret) from rfl)
theorem r_Cells_isInt_0 : je X 74 0 [some (.inr r), l1] S σ = je X 74 1 [some (.inr r), l1] (.inr r :: S) σ := je_aload (show jm_fe 74 0 = some (jk_aload 0 1) from rfl) rfl
theorem r_Cells_isInt_1 : je X 74 1 [some (.inr r), l1] S σ = je X 74 2 [some (.inr r), l1] (.inr r :: S) σ := je_aload (show jm_fe 74 1 = some (jk_aload 0 1) from rfl) rfl
theorem r_Cells_isInt_2 : je X 74 2 L (.inr (.inl (some a)) :: S) σ = je_v X 74 5 L S σ (jm_gf σ.1 a 6 2) := je_getf (show jm_fe 74 2 = some (jk_getf 6 2) from rfl)
theorem r_Cells_isInt_5 : je X 74 5 L S σ = je X 74 6 L (.inl 1 :: S) σ := je_const (show jm_fe 74 5 = some (jk_const 1 1) from rfl)
theorem r_Cells_isInt_6 : je X 74 6 L (.inl q :: .inl p :: S) σ = je X 74 7 L (.inl (p - q) :: S) σ := je_bin (show jm_fe 74 6 = some (jb_isub) from rfl)
theorem r_Cells_isInt_7 : je X 74 7 [l0, some (.inl x)] S σ = je X 74 8 [l0, some (.inl x)] (.inl x :: S) σ := je_iload (show jm_fe 74 7 = some (jk_iload 1 1) from rfl) rfl
theorem r_Cells_isInt_8 : je X 74 8 L (.inl q :: .inl p :: S) σ = je X 74 9 L (.inl (p - q) :: S) σ := je_bin (show jm_fe 74 8 = some (jb_isub) from rfl)
theorem r_Cells_isInt_9 (hc : jm_cl σ.1 a = some 6) (h8 : S.length ≤ 8) : je X 74 9 L (v0 :: .inr (.inl (some a)) :: S) σ = je_c X 74 12 L S (je X 72 0 [some (.inr (.inl (some a))), some v0] [] σ) := je_callV (as := [v0]) (S' := S) (show jm_fe 74 9 = some (jk_callV 72 1 6) from rfl) rfl hc h8
theorem r_Cells_isInt_12 : je X 74 12 L (.inl p :: S) σ = if p = 0 then je X 74 15 L S σ else je X 74 19 L S σ := je_if_ne (show jm_fe 74 12 = some (jk_if .ne 19) from rfl)
theorem r_Cells_isInt_15 : je X 74 15 L S σ = je X 74 16 L (.inl 1 :: S) σ := je_const (show jm_fe 74 15 = some (jk_const 1 1) from rfl)
theorem r_Cells_isInt_16 : je X 74 16 L S σ = je X 74 20 L S σ := je_goto (show jm_fe 74 16 = some (jk_goto 20) from rfl)
theorem r_Cells_isInt_19 : je X 74 19 L S σ = je X 74 20 L (.inl 0 :: S) σ := je_const (show jm_fe 74 19 = some (jk_const 0 1) from rfl)
theorem r_Cells_isInt_20 (hx : p = 0 ∨ p = 1) : je X 74 20 L [.inl p] σ = some (some (.inl p), σ) := je_zret (show jm_fe 74 20 = some (jk_zret) from rfl) hx
theorem r_Cells_isRow_0 : je X 75 0 [some (.inr r), l1] S σ = je X 75 1 [some (.inr r), l1] (.inr r :: S) σ := je_aload (show jm_fe 75 0 = some (jk_aload 0 1) from rfl) rfl
theorem r_Cells_isRow_1 : je X 75 1 [some (.inr r), l1] S σ = je X 75 2 [some (.inr r), l1] (.inr r :: S) σ := je_aload (show jm_fe 75 1 = some (jk_aload 0 1) from rfl) rfl
theorem r_Cells_isRow_2 : je X 75 2 L (.inr (.inl (some a)) :: S) σ = je_v X 75 5 L S σ (jm_gf σ.1 a 6 2) := je_getf (show jm_fe 75 2 = some (jk_getf 6 2) from rfl)
theorem r_Cells_isRow_5 : je X 75 5 L S σ = je X 75 6 L (.inl 1 :: S) σ := je_const (show jm_fe 75 5 = some (jk_const 1 1) from rfl)
theorem r_Cells_isRow_6 : je X 75 6 L (.inl q :: .inl p :: S) σ = je X 75 7 L (.inl (p - q) :: S) σ := je_bin (show jm_fe 75 6 = some (jb_isub) from rfl)
theorem r_Cells_isRow_7 : je X 75 7 [l0, some (.inl x)] S σ = je X 75 8 [l0, some (.inl x)] (.inl x :: S) σ := je_iload (show jm_fe 75 7 = some (jk_iload 1 1) from rfl) rfl
theorem r_Cells_isRow_8 : je X 75 8 L (.inl q :: .inl p :: S) σ = je X 75 9 L (.inl (p - q) :: S) σ := je_bin (show jm_fe 75 8 = some (jb_isub) from rfl)
theorem r_Cells_isRow_9 (hc : jm_cl σ.1 a = some 6) (h8 : S.length ≤ 8) : je X 75 9 L (v0 :: .inr (.inl (some a)) :: S) σ = je_c X 75 12 L S (je X 72 0 [some (.inr (.inl (some a))), some v0] [] σ) := je_callV (as := [v0]) (S' := S) (show jm_fe 75 9 = some (jk_callV 72 1 6) from rfl) rfl hc h8
theorem r_Cells_isRow_12 : je X 75 12 L (.inl p :: S) σ = if p ≤ 0 then je X 75 19 L S σ else je X 75 15 L S σ := je_if_le (show jm_fe 75 12 = some (jk_if .le 19) from rfl)
theorem r_Cells_isRow_15 : je X 75 15 L S σ = je X 75 16 L (.inl 1 :: S) σ := je_const (show jm_fe 75 15 = some (jk_const 1 1) from rfl)
theorem r_Cells_isRow_16 : je X 75 16 L S σ = je X 75 20 L S σ := je_goto (show jm_fe 75 16 = some (jk_goto 20) from rfl)
theorem r_Cells_isRow_19 : je X 75 19 L S σ = je X 75 20 L (.inl 0 :: S) σ := je_const (show jm_fe 75 19 = some (jk_const 0 1) from rfl)
theorem r_Cells_isRow_20 (hx : p = 0 ∨ p = 1) : je X 75 20 L [.inl p] σ = some (some (.inl p), σ) := je_zret (show jm_fe 75 20 = some (jk_zret) from rfl) hx
theorem r_Cells_areInts_0 : je X 76 0 L S σ = je X 76 1 L (.inl 0 :: S) σ := je_const (show jm_fe 76 0 = some (jk_const 0 1) from rfl)
theorem r_Cells_areInts_1 : je X 76 1 [l0, l1, l2] (.inl x :: S) σ = je X 76 2 [l0, l1, some (.inl x)] S σ := je_istore (show jm_fe 76 1 = some (jk_istore 2 1) from rfl) (Nat.le_of_ble_eq_true rfl)
theorem r_Cells_areInts_2 : je X 76 2 [l0, l1, some (.inl x)] S σ = je X 76 3 [l0, l1, some (.inl x)] (.inl x :: S) σ := je_iload (show jm_fe 76 2 = some (jk_iload 2 1) from rfl) rfl
theorem r_Cells_areInts_3 : je X 76 3 [l0, some (.inl x), l2] S σ = je X 76 4 [l0, some (.inl x), l2] (.inl x :: S) σ := je_iload (show jm_fe 76 3 = some (jk_iload 1 1) from rfl) rfl
theorem r_Cells_areInts_4 : je X 76 4 L (.inl q :: .inl p :: S) σ = if q ≤ p then je X 76 23 L S σ else je X 76 7 L S σ := je_icmp_ge (show jm_fe 76 4 = some (jk_icmp .ge 23) from rfl)
theorem r_Cells_areInts_7 : je X 76 7 [some (.inr r), l1, l2] S σ = je X 76 8 [some (.inr r), l1, l2] (.inr r :: S) σ := je_aload (show jm_fe 76 7 = some (jk_aload 0 1) from rfl) rfl
theorem r_Cells_areInts_8 : je X 76 8 [l0, l1, some (.inl x)] S σ = je X 76 9 [l0, l1, some (.inl x)] (.inl x :: S) σ := je_iload (show jm_fe 76 8 = some (jk_iload 2 1) from rfl) rfl
theorem r_Cells_areInts_9 (hc : jm_cl σ.1 a = some 6) (h8 : S.length ≤ 8) : je X 76 9 L (v0 :: .inr (.inl (some a)) :: S) σ = je_c X 76 12 L S (je X 74 0 [some (.inr (.inl (some a))), some v0] [] σ) := je_callV (as := [v0]) (S' := S) (show jm_fe 76 9 = some (jk_callV 74 1 6) from rfl) rfl hc h8
theorem r_Cells_areInts_12 : je X 76 12 L (.inl p :: S) σ = if p = 0 then je X 76 15 L S σ else je X 76 17 L S σ := je_if_ne (show jm_fe 76 12 = some (jk_if .ne 17) from rfl)
theorem r_Cells_areInts_15 : je X 76 15 L S σ = je X 76 16 L (.inl 0 :: S) σ := je_const (show jm_fe 76 15 = some (jk_const 0 1) from rfl)
theorem r_Cells_areInts_16 (hx : p = 0 ∨ p = 1) : je X 76 16 L [.inl p] σ = some (some (.inl p), σ) := je_zret (show jm_fe 76 16 = some (jk_zret) from rfl) hx
theorem r_Cells_areInts_17 : je X 76 17 [l0, l1, some (.inl x)] S σ = je X 76 20 [l0, l1, some (.inl (x + (1)))] S σ := je_iinc (show jm_fe 76 17 = some (jk_iinc 2 (1)) from rfl) rfl
theorem r_Cells_areInts_20 : je X 76 20 L S σ = je X 76 2 L S σ := je_goto (show jm_fe 76 20 = some (jk_goto 2) from rfl)
theorem r_Cells_areInts_23 : je X 76 23 L S σ = je X 76 24 L (.inl 1 :: S) σ := je_const (show jm_fe 76 23 = some (jk_const 1 1) from rfl)
theorem r_Cells_areInts_24 (hx : p = 0 ∨ p = 1) : je X 76 24 L [.inl p] σ = some (some (.inl p), σ) := je_zret (show jm_fe 76 24 = some (jk_zret) from rfl) hx
theorem r_Cells_rowNumber_0 : je X 77 0 [some (.inr r), l1] S σ = je X 77 1 [some (.inr r), l1] (.inr r :: S) σ := je_aload (show jm_fe 77 0 = some (jk_aload 0 1) from rfl) rfl
theorem r_Cells_rowNumber_1 : je X 77 1 [some (.inr r), l1] S σ = je X 77 2 [some (.inr r), l1] (.inr r :: S) σ := je_aload (show jm_fe 77 1 = some (jk_aload 0 1) from rfl) rfl
theorem r_Cells_rowNumber_2 : je X 77 2 L (.inr (.inl (some a)) :: S) σ = je_v X 77 5 L S σ (jm_gf σ.1 a 6 2) := je_getf (show jm_fe 77 2 = some (jk_getf 6 2) from rfl)
theorem r_Cells_rowNumber_5 : je X 77 5 L S σ = je X 77 6 L (.inl 1 :: S) σ := je_const (show jm_fe 77 5 = some (jk_const 1 1) from rfl)
theorem r_Cells_rowNumber_6 : je X 77 6 L (.inl q :: .inl p :: S) σ = je X 77 7 L (.inl (p - q) :: S) σ := je_bin (show jm_fe 77 6 = some (jb_isub) from rfl)
theorem r_Cells_rowNumber_7 : je X 77 7 [l0, some (.inl x)] S σ = je X 77 8 [l0, some (.inl x)] (.inl x :: S) σ := je_iload (show jm_fe 77 7 = some (jk_iload 1 1) from rfl) rfl
theorem r_Cells_rowNumber_8 : je X 77 8 L (.inl q :: .inl p :: S) σ = je X 77 9 L (.inl (p - q) :: S) σ := je_bin (show jm_fe 77 8 = some (jb_isub) from rfl)
theorem r_Cells_rowNumber_9 (hc : jm_cl σ.1 a = some 6) (h8 : S.length ≤ 8) : je X 77 9 L (v0 :: .inr (.inl (some a)) :: S) σ = je_c X 77 12 L S (je X 72 0 [some (.inr (.inl (some a))), some v0] [] σ) := je_callV (as := [v0]) (S' := S) (show jm_fe 77 9 = some (jk_callV 72 1 6) from rfl) rfl hc h8
theorem r_Cells_rowNumber_12 : je X 77 12 L S σ = je X 77 13 L (.inl 1 :: S) σ := je_const (show jm_fe 77 12 = some (jk_const 1 1) from rfl)
theorem r_Cells_rowNumber_13 : je X 77 13 L (.inl q :: .inl p :: S) σ = je X 77 14 L (.inl (p - q) :: S) σ := je_bin (show jm_fe 77 13 = some (jb_isub) from rfl)
theorem r_Cells_rowNumber_14 : je X 77 14 L [.inl p] σ = some (some (.inl p), σ) := je_iret (show jm_fe 77 14 = some (jk_iret) from rfl)
theorem r_Cells_put_0 : je X 78 0 [some (.inr r), l1, l2] S σ = je X 78 1 [some (.inr r), l1, l2] (.inr r :: S) σ := je_aload (show jm_fe 78 0 = some (jk_aload 0 1) from rfl) rfl
theorem r_Cells_put_1 : je X 78 1 L (.inr (.inl (some a)) :: S) σ = je_v X 78 4 L S σ (jm_gf σ.1 a 6 2) := je_getf (show jm_fe 78 1 = some (jk_getf 6 2) from rfl)
theorem r_Cells_put_4 : je X 78 4 [some (.inr r), l1, l2] S σ = je X 78 5 [some (.inr r), l1, l2] (.inr r :: S) σ := je_aload (show jm_fe 78 4 = some (jk_aload 0 1) from rfl) rfl
theorem r_Cells_put_5 : je X 78 5 L (.inr (.inl (some a)) :: S) σ = je_v X 78 8 L S σ (jm_gf σ.1 a 6 0) := je_getf (show jm_fe 78 5 = some (jk_getf 6 0) from rfl)
theorem r_Cells_put_8 : je X 78 8 L (.inr (.inl (some a)) :: S) σ = je_i X 78 9 L S σ (jm_an σ.1 a 4) := je_alen (show jm_fe 78 8 = some (jk_alen 4) from rfl)
theorem r_Cells_put_9 : je X 78 9 L (.inl q :: .inl p :: S) σ = if q ≤ p then je X 78 42 L S σ else je X 78 12 L S σ := je_icmp_ge (show jm_fe 78 9 = some (jk_icmp .ge 42) from rfl)
theorem r_Cells_put_12 : je X 78 12 [some (.inr r), l1, l2] S σ = je X 78 13 [some (.inr r), l1, l2] (.inr r :: S) σ := je_aload (show jm_fe 78 12 = some (jk_aload 0 1) from rfl) rfl
theorem r_Cells_put_13 : je X 78 13 L (.inr (.inl (some a)) :: S) σ = je_v X 78 16 L S σ (jm_gf σ.1 a 6 0) := je_getf (show jm_fe 78 13 = some (jk_getf 6 0) from rfl)
theorem r_Cells_put_16 : je X 78 16 [some (.inr r), l1, l2] S σ = je X 78 17 [some (.inr r), l1, l2] (.inr r :: S) σ := je_aload (show jm_fe 78 16 = some (jk_aload 0 1) from rfl) rfl
theorem r_Cells_put_17 : je X 78 17 L (.inr (.inl (some a)) :: S) σ = je_v X 78 20 L S σ (jm_gf σ.1 a 6 2) := je_getf (show jm_fe 78 17 = some (jk_getf 6 2) from rfl)
theorem r_Cells_put_20 : je X 78 20 [l0, some (.inl x), l2] S σ = je X 78 21 [l0, some (.inl x), l2] (.inl x :: S) σ := je_iload (show jm_fe 78 20 = some (jk_iload 1 1) from rfl) rfl
theorem r_Cells_put_21 : je X 78 21 L (.inl q :: .inl p :: .inr (.inl (some a)) :: S) σ = je_h X 78 22 L S σ.2 (jm_as σ.1 a 0 p q) := je_iast (show jm_fe 78 21 = some (jk_iast) from rfl)
theorem r_Cells_put_22 : je X 78 22 [some (.inr r), l1, l2] S σ = je X 78 23 [some (.inr r), l1, l2] (.inr r :: S) σ := je_aload (show jm_fe 78 22 = some (jk_aload 0 1) from rfl) rfl
theorem r_Cells_put_23 : je X 78 23 L (.inr (.inl (some a)) :: S) σ = je_v X 78 26 L S σ (jm_gf σ.1 a 6 1) := je_getf (show jm_fe 78 23 = some (jk_getf 6 1) from rfl)
theorem r_Cells_put_26 : je X 78 26 [some (.inr r), l1, l2] S σ = je X 78 27 [some (.inr r), l1, l2] (.inr r :: S) σ := je_aload (show jm_fe 78 26 = some (jk_aload 0 1) from rfl) rfl
theorem r_Cells_put_27 : je X 78 27 L (.inr (.inl (some a)) :: S) σ = je_v X 78 30 L S σ (jm_gf σ.1 a 6 2) := je_getf (show jm_fe 78 27 = some (jk_getf 6 2) from rfl)
theorem r_Cells_put_30 : je X 78 30 [l0, l1, some (.inl x)] S σ = je X 78 31 [l0, l1, some (.inl x)] (.inl x :: S) σ := je_iload (show jm_fe 78 30 = some (jk_iload 2 1) from rfl) rfl
theorem r_Cells_put_31 : je X 78 31 L (.inl q :: .inl p :: .inr (.inl (some a)) :: S) σ = je_h X 78 32 L S σ.2 (jm_as σ.1 a 0 p q) := je_iast (show jm_fe 78 31 = some (jk_iast) from rfl)
theorem r_Cells_put_32 : je X 78 32 [some (.inr r), l1, l2] S σ = je X 78 33 [some (.inr r), l1, l2] (.inr r :: S) σ := je_aload (show jm_fe 78 32 = some (jk_aload 0 1) from rfl) rfl
theorem r_Cells_put_33 : je X 78 33 L (v :: S) σ = je X 78 34 L (v :: v :: S) σ := je_dup (show jm_fe 78 33 = some (jk_dup) from rfl)
theorem r_Cells_put_34 : je X 78 34 L (.inr (.inl (some a)) :: S) σ = je_v X 78 37 L S σ (jm_gf σ.1 a 6 2) := je_getf (show jm_fe 78 34 = some (jk_getf 6 2) from rfl)
theorem r_Cells_put_37 : je X 78 37 L S σ = je X 78 38 L (.inl 1 :: S) σ := je_const (show jm_fe 78 37 = some (jk_const 1 1) from rfl)
theorem r_Cells_put_38 : je X 78 38 L (.inl q :: .inl p :: S) σ = je X 78 39 L (.inl (p + q) :: S) σ := je_bin (show jm_fe 78 38 = some (jb_iadd) from rfl)
theorem r_Cells_put_39 : je X 78 39 L (v :: .inr (.inl (some a)) :: S) σ = je_h X 78 42 L S σ.2 (jm_pf σ.1 a 6 2 0 v) := je_putf (show jm_fe 78 39 = some (jk_putf 6 2 0) from rfl)
theorem r_Cells_put_42 : je X 78 42 L [] σ = some (none, σ) := je_ret (show jm_fe 78 42 = some (jk_ret) from rfl)
theorem r_Cells_set_0 : je X 79 0 [l0, some (.inl x), l2, l3] S σ = je X 79 1 [l0, some (.inl x), l2, l3] (.inl x :: S) σ := je_iload (show jm_fe 79 0 = some (jk_iload 1 1) from rfl) rfl
theorem r_Cells_set_1 : je X 79 1 L (.inl p :: S) σ = if p < 0 then je X 79 26 L S σ else je X 79 4 L S σ := je_if_lt (show jm_fe 79 1 = some (jk_if .lt 26) from rfl)
theorem r_Cells_set_4 : je X 79 4 [l0, some (.inl x), l2, l3] S σ = je X 79 5 [l0, some (.inl x), l2, l3] (.inl x :: S) σ := je_iload (show jm_fe 79 4 = some (jk_iload 1 1) from rfl) rfl
theorem r_Cells_set_5 : je X 79 5 [some (.inr r), l1, l2, l3] S σ = je X 79 6 [some (.inr r), l1, l2, l3] (.inr r :: S) σ := je_aload (show jm_fe 79 5 = some (jk_aload 0 1) from rfl) rfl
theorem r_Cells_set_6 : je X 79 6 L (.inr (.inl (some a)) :: S) σ = je_v X 79 9 L S σ (jm_gf σ.1 a 6 2) := je_getf (show jm_fe 79 6 = some (jk_getf 6 2) from rfl)
theorem r_Cells_set_9 : je X 79 9 L (.inl q :: .inl p :: S) σ = if q ≤ p then je X 79 26 L S σ else je X 79 12 L S σ := je_icmp_ge (show jm_fe 79 9 = some (jk_icmp .ge 26) from rfl)
theorem r_Cells_set_12 : je X 79 12 [some (.inr r), l1, l2, l3] S σ = je X 79 13 [some (.inr r), l1, l2, l3] (.inr r :: S) σ := je_aload (show jm_fe 79 12 = some (jk_aload 0 1) from rfl) rfl
theorem r_Cells_set_13 : je X 79 13 L (.inr (.inl (some a)) :: S) σ = je_v X 79 16 L S σ (jm_gf σ.1 a 6 0) := je_getf (show jm_fe 79 13 = some (jk_getf 6 0) from rfl)
theorem r_Cells_set_16 : je X 79 16 [l0, some (.inl x), l2, l3] S σ = je X 79 17 [l0, some (.inl x), l2, l3] (.inl x :: S) σ := je_iload (show jm_fe 79 16 = some (jk_iload 1 1) from rfl) rfl
theorem r_Cells_set_17 : je X 79 17 [l0, l1, some (.inl x), l3] S σ = je X 79 18 [l0, l1, some (.inl x), l3] (.inl x :: S) σ := je_iload (show jm_fe 79 17 = some (jk_iload 2 1) from rfl) rfl
theorem r_Cells_set_18 : je X 79 18 L (.inl q :: .inl p :: .inr (.inl (some a)) :: S) σ = je_h X 79 19 L S σ.2 (jm_as σ.1 a 0 p q) := je_iast (show jm_fe 79 18 = some (jk_iast) from rfl)
theorem r_Cells_set_19 : je X 79 19 [some (.inr r), l1, l2, l3] S σ = je X 79 20 [some (.inr r), l1, l2, l3] (.inr r :: S) σ := je_aload (show jm_fe 79 19 = some (jk_aload 0 1) from rfl) rfl
theorem r_Cells_set_20 : je X 79 20 L (.inr (.inl (some a)) :: S) σ = je_v X 79 23 L S σ (jm_gf σ.1 a 6 1) := je_getf (show jm_fe 79 20 = some (jk_getf 6 1) from rfl)
theorem r_Cells_set_23 : je X 79 23 [l0, some (.inl x), l2, l3] S σ = je X 79 24 [l0, some (.inl x), l2, l3] (.inl x :: S) σ := je_iload (show jm_fe 79 23 = some (jk_iload 1 1) from rfl) rfl
theorem r_Cells_set_24 : je X 79 24 [l0, l1, l2, some (.inl x)] S σ = je X 79 25 [l0, l1, l2, some (.inl x)] (.inl x :: S) σ := je_iload (show jm_fe 79 24 = some (jk_iload 3 1) from rfl) rfl
theorem r_Cells_set_25 : je X 79 25 L (.inl q :: .inl p :: .inr (.inl (some a)) :: S) σ = je_h X 79 26 L S σ.2 (jm_as σ.1 a 0 p q) := je_iast (show jm_fe 79 25 = some (jk_iast) from rfl)
theorem r_Cells_set_26 : je X 79 26 L [] σ = some (none, σ) := je_ret (show jm_fe 79 26 = some (jk_ret) from rfl)
theorem r_Cells_take_0 : je X 80 0 [some (.inr r), l1] S σ = je X 80 1 [some (.inr r), l1] (.inr r :: S) σ := je_aload (show jm_fe 80 0 = some (jk_aload 0 1) from rfl) rfl
theorem r_Cells_take_1 : je X 80 1 [l0, some (.inl x)] S σ = je X 80 2 [l0, some (.inl x)] (.inl x :: S) σ := je_iload (show jm_fe 80 1 = some (jk_iload 1 1) from rfl) rfl
theorem r_Cells_take_2 : je X 80 2 [some (.inr r), l1] S σ = je X 80 3 [some (.inr r), l1] (.inr r :: S) σ := je_aload (show jm_fe 80 2 = some (jk_aload 0 1) from rfl) rfl
theorem r_Cells_take_3 : je X 80 3 L (.inr (.inl (some a)) :: S) σ = je_v X 80 6 L S σ (jm_gf σ.1 a 6 2) := je_getf (show jm_fe 80 3 = some (jk_getf 6 2) from rfl)
theorem r_Cells_take_6 : je X 80 6 L (.inl q :: .inl p :: S) σ = if q ≤ p then je X 80 18 L S σ else je X 80 9 L S σ := je_icmp_ge (show jm_fe 80 6 = some (jk_icmp .ge 18) from rfl)
theorem r_Cells_take_9 : je X 80 9 [some (.inr r), l1] S σ = je X 80 10 [some (.inr r), l1] (.inr r :: S) σ := je_aload (show jm_fe 80 9 = some (jk_aload 0 1) from rfl) rfl
theorem r_Cells_take_10 : je X 80 10 L (.inr (.inl (some a)) :: S) σ = je_v X 80 13 L S σ (jm_gf σ.1 a 6 2) := je_getf (show jm_fe 80 10 = some (jk_getf 6 2) from rfl)
theorem r_Cells_take_13 : je X 80 13 [l0, some (.inl x)] S σ = je X 80 14 [l0, some (.inl x)] (.inl x :: S) σ := je_iload (show jm_fe 80 13 = some (jk_iload 1 1) from rfl) rfl
theorem r_Cells_take_14 : je X 80 14 L (.inl q :: .inl p :: S) σ = je X 80 15 L (.inl (p - q) :: S) σ := je_bin (show jm_fe 80 14 = some (jb_isub) from rfl)
theorem r_Cells_take_15 : je X 80 15 L S σ = je X 80 19 L S σ := je_goto (show jm_fe 80 15 = some (jk_goto 19) from rfl)
theorem r_Cells_take_18 : je X 80 18 L S σ = je X 80 19 L (.inl 0 :: S) σ := je_const (show jm_fe 80 18 = some (jk_const 0 1) from rfl)
theorem r_Cells_take_19 : je X 80 19 L (v :: .inr (.inl (some a)) :: S) σ = je_h X 80 22 L S σ.2 (jm_pf σ.1 a 6 2 0 v) := je_putf (show jm_fe 80 19 = some (jk_putf 6 2 0) from rfl)
theorem r_Cells_take_22 : je X 80 22 L [] σ = some (none, σ) := je_ret (show jm_fe 80 22 = some (jk_ret) from rfl)
theorem r_Cells_replaceInts_0 : je X 81 0 [some (.inr r), l1, l2] S σ = je X 81 1 [some (.inr r), l1, l2] (.inr r :: S) σ := je_aload (show jm_fe 81 0 = some (jk_aload 0 1) from rfl) rfl
theorem r_Cells_replaceInts_1 : je X 81 1 [l0, some (.inl x), l2] S σ = je X 81 2 [l0, some (.inl x), l2] (.inl x :: S) σ := je_iload (show jm_fe 81 1 = some (jk_iload 1 1) from rfl) rfl
theorem r_Cells_replaceInts_2 (hc : jm_cl σ.1 a = some 6) (h8 : S.length ≤ 8) : je X 81 2 L (v0 :: .inr (.inl (some a)) :: S) σ = je_c X 81 5 L S (je X 80 0 [some (.inr (.inl (some a))), some v0] [] σ) := je_callV (as := [v0]) (S' := S) (show jm_fe 81 2 = some (jk_callV 80 1 6) from rfl) rfl hc h8
theorem r_Cells_replaceInts_5 : je X 81 5 [some (.inr r), l1, l2] S σ = je X 81 6 [some (.inr r), l1, l2] (.inr r :: S) σ := je_aload (show jm_fe 81 5 = some (jk_aload 0 1) from rfl) rfl
theorem r_Cells_replaceInts_6 : je X 81 6 [l0, l1, some (.inl x)] S σ = je X 81 7 [l0, l1, some (.inl x)] (.inl x :: S) σ := je_iload (show jm_fe 81 6 = some (jk_iload 2 1) from rfl) rfl
theorem r_Cells_replaceInts_7 : je X 81 7 L S σ = je X 81 8 L (.inl 0 :: S) σ := je_const (show jm_fe 81 7 = some (jk_const 0 1) from rfl)
theorem r_Cells_replaceInts_8 (hc : jm_cl σ.1 a = some 6) (h8 : S.length ≤ 8) : je X 81 8 L (v1 :: v0 :: .inr (.inl (some a)) :: S) σ = je_c X 81 11 L S (je X 78 0 [some (.inr (.inl (some a))), some v0, some v1] [] σ) := je_callV (as := [v0, v1]) (S' := S) (show jm_fe 81 8 = some (jk_callV 78 2 6) from rfl) rfl hc h8
theorem r_Cells_replaceInts_11 : je X 81 11 L [] σ = some (none, σ) := je_ret (show jm_fe 81 11 = some (jk_ret) from rfl)
theorem r_Frame_reset_0 : je X 83 0 [some (.inr r), l1, l2] S σ = je X 83 1 [some (.inr r), l1, l2] (.inr r :: S) σ := je_aload (show jm_fe 83 0 = some (jk_aload 0 1) from rfl) rfl
theorem r_Frame_reset_1 : je X 83 1 [l0, some (.inl x), l2] S σ = je X 83 2 [l0, some (.inl x), l2] (.inl x :: S) σ := je_iload (show jm_fe 83 1 = some (jk_iload 1 1) from rfl) rfl
theorem r_Frame_reset_2 : je X 83 2 L (v :: .inr (.inl (some a)) :: S) σ = je_h X 83 5 L S σ.2 (jm_pf σ.1 a 5 2 0 v) := je_putf (show jm_fe 83 2 = some (jk_putf 5 2 0) from rfl)
theorem r_Frame_reset_5 : je X 83 5 [some (.inr r), l1, l2] S σ = je X 83 6 [some (.inr r), l1, l2] (.inr r :: S) σ := je_aload (show jm_fe 83 5 = some (jk_aload 0 1) from rfl) rfl
theorem r_Frame_reset_6 : je X 83 6 L S σ = je X 83 7 L (.inl 0 :: S) σ := je_const (show jm_fe 83 6 = some (jk_const 0 1) from rfl)
theorem r_Frame_reset_7 : je X 83 7 L (v :: .inr (.inl (some a)) :: S) σ = je_h X 83 10 L S σ.2 (jm_pf σ.1 a 5 3 0 v) := je_putf (show jm_fe 83 7 = some (jk_putf 5 3 0) from rfl)
theorem r_Frame_reset_10 : je X 83 10 [some (.inr r), l1, l2] S σ = je X 83 11 [some (.inr r), l1, l2] (.inr r :: S) σ := je_aload (show jm_fe 83 10 = some (jk_aload 0 1) from rfl) rfl
theorem r_Frame_reset_11 : je X 83 11 L (.inr (.inl (some a)) :: S) σ = je_v X 83 14 L S σ (jm_gf σ.1 a 5 0) := je_getf (show jm_fe 83 11 = some (jk_getf 5 0) from rfl)
theorem r_Frame_reset_14 : je X 83 14 L S σ = je X 83 15 L (.inl 0 :: S) σ := je_const (show jm_fe 83 14 = some (jk_const 0 1) from rfl)
theorem r_Frame_reset_15 (hc : jm_cl σ.1 a = some 6) (h8 : S.length ≤ 8) : je X 83 15 L (v0 :: .inr (.inl (some a)) :: S) σ = je_c X 83 18 L S (je X 69 0 [some (.inr (.inl (some a))), some v0, none] [] σ) := je_callV (as := [v0]) (S' := S) (show jm_fe 83 15 = some (jk_callV 69 1 6) from rfl) rfl hc h8
theorem r_Frame_reset_18 : je X 83 18 [some (.inr r), l1, l2] S σ = je X 83 19 [some (.inr r), l1, l2] (.inr r :: S) σ := je_aload (show jm_fe 83 18 = some (jk_aload 0 1) from rfl) rfl
theorem r_Frame_reset_19 : je X 83 19 L (.inr (.inl (some a)) :: S) σ = je_v X 83 22 L S σ (jm_gf σ.1 a 5 1) := je_getf (show jm_fe 83 19 = some (jk_getf 5 1) from rfl)
theorem r_Frame_reset_22 : je X 83 22 [l0, l1, some (.inl x)] S σ = je X 83 23 [l0, l1, some (.inl x)] (.inl x :: S) σ := je_iload (show jm_fe 83 22 = some (jk_iload 2 1) from rfl) rfl
theorem r_Frame_reset_23 (hc : jm_cl σ.1 a = some 6) (h8 : S.length ≤ 8) : je X 83 23 L (v0 :: .inr (.inl (some a)) :: S) σ = je_c X 83 26 L S (je X 69 0 [some (.inr (.inl (some a))), some v0, none] [] σ) := je_callV (as := [v0]) (S' := S) (show jm_fe 83 23 = some (jk_callV 69 1 6) from rfl) rfl hc h8
theorem r_Frame_reset_26 : je X 83 26 L [] σ = some (none, σ) := je_ret (show jm_fe 83 26 = some (jk_ret) from rfl)
theorem r_Frame_cells_0 : je X 84 0 [l0, some (.inl x)] S σ = je X 84 1 [l0, some (.inl x)] (.inl x :: S) σ := je_iload (show jm_fe 84 0 = some (jk_iload 1 1) from rfl) rfl
theorem r_Frame_cells_1 : je X 84 1 L (.inl p :: S) σ = if p = 0 then je X 84 11 L S σ else je X 84 4 L S σ := je_if_eq (show jm_fe 84 1 = some (jk_if .eq 11) from rfl)
theorem r_Frame_cells_4 : je X 84 4 [some (.inr r), l1] S σ = je X 84 5 [some (.inr r), l1] (.inr r :: S) σ := je_aload (show jm_fe 84 4 = some (jk_aload 0 1) from rfl) rfl
theorem r_Frame_cells_5 : je X 84 5 L (.inr (.inl (some a)) :: S) σ = je_v X 84 8 L S σ (jm_gf σ.1 a 5 1) := je_getf (show jm_fe 84 5 = some (jk_getf 5 1) from rfl)
theorem r_Frame_cells_8 : je X 84 8 L S σ = je X 84 15 L S σ := je_goto (show jm_fe 84 8 = some (jk_goto 15) from rfl)
theorem r_Frame_cells_11 : je X 84 11 [some (.inr r), l1] S σ = je X 84 12 [some (.inr r), l1] (.inr r :: S) σ := je_aload (show jm_fe 84 11 = some (jk_aload 0 1) from rfl) rfl
theorem r_Frame_cells_12 : je X 84 12 L (.inr (.inl (some a)) :: S) σ = je_v X 84 15 L S σ (jm_gf σ.1 a 5 0) := je_getf (show jm_fe 84 12 = some (jk_getf 5 0) from rfl)
theorem r_Frame_cells_15 : je X 84 15 L [.inr (.inl o)] σ = some (some (.inr (.inl o)), σ) := je_aret (show jm_fe 84 15 = some (jk_aret) from rfl)
theorem r_Frame_goOnWithCode_0 : je X 85 0 [some (.inr r), l1, l2] S σ = je X 85 1 [some (.inr r), l1, l2] (.inr r :: S) σ := je_aload (show jm_fe 85 0 = some (jk_aload 0 1) from rfl) rfl
theorem r_Frame_goOnWithCode_1 : je X 85 1 L (.inr (.inl (some a)) :: S) σ = je_v X 85 4 L S σ (jm_gf σ.1 a 5 0) := je_getf (show jm_fe 85 1 = some (jk_getf 5 0) from rfl)
theorem r_Frame_goOnWithCode_4 : je X 85 4 L S σ = je X 85 5 L (.inl 0 :: S) σ := je_const (show jm_fe 85 4 = some (jk_const 0 1) from rfl)
theorem r_Frame_goOnWithCode_5 (hc : jm_cl σ.1 a = some 6) (h8 : S.length ≤ 8) : je X 85 5 L (v0 :: .inr (.inl (some a)) :: S) σ = je_c X 85 8 L S (je X 69 0 [some (.inr (.inl (some a))), some v0, none] [] σ) := je_callV (as := [v0]) (S' := S) (show jm_fe 85 5 = some (jk_callV 69 1 6) from rfl) rfl hc h8
theorem r_Frame_goOnWithCode_8 : je X 85 8 [some (.inr r), l1, l2] S σ = je X 85 9 [some (.inr r), l1, l2] (.inr r :: S) σ := je_aload (show jm_fe 85 8 = some (jk_aload 0 1) from rfl) rfl
theorem r_Frame_goOnWithCode_9 : je X 85 9 L (.inr (.inl (some a)) :: S) σ = je_v X 85 12 L S σ (jm_gf σ.1 a 5 0) := je_getf (show jm_fe 85 9 = some (jk_getf 5 0) from rfl)
theorem r_Frame_goOnWithCode_12 : je X 85 12 [l0, some (.inl x), l2] S σ = je X 85 13 [l0, some (.inl x), l2] (.inl x :: S) σ := je_iload (show jm_fe 85 12 = some (jk_iload 1 1) from rfl) rfl
theorem r_Frame_goOnWithCode_13 : je X 85 13 L S σ = je X 85 14 L (.inl 0 :: S) σ := je_const (show jm_fe 85 13 = some (jk_const 0 1) from rfl)
theorem r_Frame_goOnWithCode_14 (hc : jm_cl σ.1 a = some 6) (h8 : S.length ≤ 8) : je X 85 14 L (v1 :: v0 :: .inr (.inl (some a)) :: S) σ = je_c X 85 17 L S (je X 78 0 [some (.inr (.inl (some a))), some v0, some v1] [] σ) := je_callV (as := [v0, v1]) (S' := S) (show jm_fe 85 14 = some (jk_callV 78 2 6) from rfl) rfl hc h8
theorem r_Frame_goOnWithCode_17 : je X 85 17 [some (.inr r), l1, l2] S σ = je X 85 18 [some (.inr r), l1, l2] (.inr r :: S) σ := je_aload (show jm_fe 85 17 = some (jk_aload 0 1) from rfl) rfl
theorem r_Frame_goOnWithCode_18 : je X 85 18 [l0, l1, some (.inl x)] S σ = je X 85 19 [l0, l1, some (.inl x)] (.inl x :: S) σ := je_iload (show jm_fe 85 18 = some (jk_iload 2 1) from rfl) rfl
theorem r_Frame_goOnWithCode_19 : je X 85 19 L (v :: .inr (.inl (some a)) :: S) σ = je_h X 85 22 L S σ.2 (jm_pf σ.1 a 5 3 0 v) := je_putf (show jm_fe 85 19 = some (jk_putf 5 3 0) from rfl)
theorem r_Frame_goOnWithCode_22 : je X 85 22 L [] σ = some (none, σ) := je_ret (show jm_fe 85 22 = some (jk_ret) from rfl)
theorem r_Function_mayHave_0 : je X 87 0 [some (.inl x), l1, l2] S σ = je X 87 1 [some (.inl x), l1, l2] (.inl x :: S) σ := je_iload (show jm_fe 87 0 = some (jk_iload 0 1) from rfl) rfl
theorem r_Function_mayHave_1 : je X 87 1 L (.inl p :: S) σ = if p < 0 then je X 87 33 L S σ else je X 87 4 L S σ := je_if_lt (show jm_fe 87 1 = some (jk_if .lt 33) from rfl)
theorem r_Function_mayHave_4 : je X 87 4 [some (.inl x), l1, l2] S σ = je X 87 5 [some (.inl x), l1, l2] (.inl x :: S) σ := je_iload (show jm_fe 87 4 = some (jk_iload 0 1) from rfl) rfl
theorem r_Function_mayHave_5 : je X 87 5 L S σ = je X 87 6 L (.inl 4 :: S) σ := je_const (show jm_fe 87 5 = some (jk_const 4 1) from rfl)
theorem r_Function_mayHave_6 : je X 87 6 L (.inl q :: .inl p :: S) σ = if q < p then je X 87 33 L S σ else je X 87 9 L S σ := je_icmp_gt (show jm_fe 87 6 = some (jk_icmp .gt 33) from rfl)
theorem r_Function_mayHave_9 : je X 87 9 [l0, some (.inl x), l2] S σ = je X 87 10 [l0, some (.inl x), l2] (.inl x :: S) σ := je_iload (show jm_fe 87 9 = some (jk_iload 1 1) from rfl) rfl
theorem r_Function_mayHave_10 : je X 87 10 [some (.inl x), l1, l2] S σ = je X 87 11 [some (.inl x), l1, l2] (.inl x :: S) σ := je_iload (show jm_fe 87 10 = some (jk_iload 0 1) from rfl) rfl
theorem r_Function_mayHave_11 : je X 87 11 L (.inl q :: .inl p :: S) σ = if p < q then je X 87 33 L S σ else je X 87 14 L S σ := je_icmp_lt (show jm_fe 87 11 = some (jk_icmp .lt 33) from rfl)
theorem r_Function_mayHave_14 : je X 87 14 [l0, some (.inl x), l2] S σ = je X 87 15 [l0, some (.inl x), l2] (.inl x :: S) σ := je_iload (show jm_fe 87 14 = some (jk_iload 1 1) from rfl) rfl
theorem r_Function_mayHave_15 : je X 87 15 L S σ = je X 87 17 L (.inl 8 :: S) σ := je_const (show jm_fe 87 15 = some (jk_const (8) 2) from rfl)
theorem r_Function_mayHave_17 : je X 87 17 L (.inl q :: .inl p :: S) σ = if q < p then je X 87 33 L S σ else je X 87 20 L S σ := je_icmp_gt (show jm_fe 87 17 = some (jk_icmp .gt 33) from rfl)
theorem r_Function_mayHave_20 : je X 87 20 [l0, l1, some (.inl x)] S σ = je X 87 21 [l0, l1, some (.inl x)] (.inl x :: S) σ := je_iload (show jm_fe 87 20 = some (jk_iload 2 1) from rfl) rfl
theorem r_Function_mayHave_21 : je X 87 21 L (.inl p :: S) σ = if p = 0 then je X 87 29 L S σ else je X 87 24 L S σ := je_if_eq (show jm_fe 87 21 = some (jk_if .eq 29) from rfl)
theorem r_Function_mayHave_24 : je X 87 24 [l0, l1, some (.inl x)] S σ = je X 87 25 [l0, l1, some (.inl x)] (.inl x :: S) σ := je_iload (show jm_fe 87 24 = some (jk_iload 2 1) from rfl) rfl
theorem r_Function_mayHave_25 : je X 87 25 L S σ = je X 87 26 L (.inl 1 :: S) σ := je_const (show jm_fe 87 25 = some (jk_const 1 1) from rfl)
theorem r_Function_mayHave_26 : je X 87 26 L (.inl q :: .inl p :: S) σ = if p = q then je X 87 29 L S σ else je X 87 33 L S σ := je_icmp_ne (show jm_fe 87 26 = some (jk_icmp .ne 33) from rfl)
theorem r_Function_mayHave_29 : je X 87 29 L S σ = je X 87 30 L (.inl 1 :: S) σ := je_const (show jm_fe 87 29 = some (jk_const 1 1) from rfl)
theorem r_Function_mayHave_30 : je X 87 30 L S σ = je X 87 34 L S σ := je_goto (show jm_fe 87 30 = some (jk_goto 34) from rfl)
theorem r_Function_mayHave_33 : je X 87 33 L S σ = je X 87 34 L (.inl 0 :: S) σ := je_const (show jm_fe 87 33 = some (jk_const 0 1) from rfl)
theorem r_Function_mayHave_34 (hx : p = 0 ∨ p = 1) : je X 87 34 L [.inl p] σ = some (some (.inl p), σ) := je_zret (show jm_fe 87 34 = some (jk_zret) from rfl) hx
theorem r_Function_reset_0 : je X 88 0 [some (.inr r), l1, l2, l3] S σ = je X 88 1 [some (.inr r), l1, l2, l3] (.inr r :: S) σ := je_aload (show jm_fe 88 0 = some (jk_aload 0 1) from rfl) rfl
theorem r_Function_reset_1 : je X 88 1 [l0, some (.inl x), l2, l3] S σ = je X 88 2 [l0, some (.inl x), l2, l3] (.inl x :: S) σ := je_iload (show jm_fe 88 1 = some (jk_iload 1 1) from rfl) rfl
theorem r_Function_reset_2 : je X 88 2 L (v :: .inr (.inl (some a)) :: S) σ = je_h X 88 5 L S σ.2 (jm_pf σ.1 a 2 7 0 v) := je_putf (show jm_fe 88 2 = some (jk_putf 2 7 0) from rfl)
theorem r_Function_reset_5 : je X 88 5 [some (.inr r), l1, l2, l3] S σ = je X 88 6 [some (.inr r), l1, l2, l3] (.inr r :: S) σ := je_aload (show jm_fe 88 5 = some (jk_aload 0 1) from rfl) rfl
theorem r_Function_reset_6 : je X 88 6 [l0, l1, some (.inl x), l3] S σ = je X 88 7 [l0, l1, some (.inl x), l3] (.inl x :: S) σ := je_iload (show jm_fe 88 6 = some (jk_iload 2 1) from rfl) rfl
theorem r_Function_reset_7 : je X 88 7 L (v :: .inr (.inl (some a)) :: S) σ = je_h X 88 10 L S σ.2 (jm_pf σ.1 a 2 8 0 v) := je_putf (show jm_fe 88 7 = some (jk_putf 2 8 0) from rfl)
theorem r_Function_reset_10 : je X 88 10 [some (.inr r), l1, l2, l3] S σ = je X 88 11 [some (.inr r), l1, l2, l3] (.inr r :: S) σ := je_aload (show jm_fe 88 10 = some (jk_aload 0 1) from rfl) rfl
theorem r_Function_reset_11 : je X 88 11 [l0, l1, l2, some (.inl x)] S σ = je X 88 12 [l0, l1, l2, some (.inl x)] (.inl x :: S) σ := je_iload (show jm_fe 88 11 = some (jk_iload 3 1) from rfl) rfl
theorem r_Function_reset_12 : je X 88 12 L S σ = je X 88 13 L (.inl 1 :: S) σ := je_const (show jm_fe 88 12 = some (jk_const 1 1) from rfl)
theorem r_Function_reset_13 : je X 88 13 L (.inl q :: .inl p :: S) σ = if p = q then je X 88 16 L S σ else je X 88 20 L S σ := je_icmp_ne (show jm_fe 88 13 = some (jk_icmp .ne 20) from rfl)
theorem r_Function_reset_16 : je X 88 16 L S σ = je X 88 17 L (.inl 1 :: S) σ := je_const (show jm_fe 88 16 = some (jk_const 1 1) from rfl)
theorem r_Function_reset_17 : je X 88 17 L S σ = je X 88 21 L S σ := je_goto (show jm_fe 88 17 = some (jk_goto 21) from rfl)
theorem r_Function_reset_20 : je X 88 20 L S σ = je X 88 21 L (.inl 0 :: S) σ := je_const (show jm_fe 88 20 = some (jk_const 0 1) from rfl)
theorem r_Function_reset_21 : je X 88 21 L (v :: .inr (.inl (some a)) :: S) σ = je_h X 88 24 L S σ.2 (jm_pf σ.1 a 2 9 1 v) := je_putf (show jm_fe 88 21 = some (jk_putf 2 9 1) from rfl)
theorem r_Function_reset_24 : je X 88 24 [some (.inr r), l1, l2, l3] S σ = je X 88 25 [some (.inr r), l1, l2, l3] (.inr r :: S) σ := je_aload (show jm_fe 88 24 = some (jk_aload 0 1) from rfl) rfl
theorem r_Function_reset_25 : je X 88 25 L S σ = je X 88 26 L (.inl 0 :: S) σ := je_const (show jm_fe 88 25 = some (jk_const 0 1) from rfl)
theorem r_Function_reset_26 : je X 88 26 L (v :: .inr (.inl (some a)) :: S) σ = je_h X 88 29 L S σ.2 (jm_pf σ.1 a 2 10 0 v) := je_putf (show jm_fe 88 26 = some (jk_putf 2 10 0) from rfl)
theorem r_Function_reset_29 : je X 88 29 [some (.inr r), l1, l2, l3] S σ = je X 88 30 [some (.inr r), l1, l2, l3] (.inr r :: S) σ := je_aload (show jm_fe 88 29 = some (jk_aload 0 1) from rfl) rfl
theorem r_Function_reset_30 : je X 88 30 L S σ = je X 88 31 L (.inl 0 :: S) σ := je_const (show jm_fe 88 30 = some (jk_const 0 1) from rfl)
theorem r_Function_reset_31 : je X 88 31 L (v :: .inr (.inl (some a)) :: S) σ = je_h X 88 34 L S σ.2 (jm_pf σ.1 a 2 11 0 v) := je_putf (show jm_fe 88 31 = some (jk_putf 2 11 0) from rfl)
theorem r_Function_reset_34 : je X 88 34 L [] σ = some (none, σ) := je_ret (show jm_fe 88 34 = some (jk_ret) from rfl)
theorem r_Function_has_0 : je X 89 0 [l0, some (.inl x)] S σ = je X 89 1 [l0, some (.inl x)] (.inl x :: S) σ := je_iload (show jm_fe 89 0 = some (jk_iload 1 1) from rfl) rfl
theorem r_Function_has_1 : je X 89 1 L (.inl p :: S) σ = if p < 0 then je X 89 16 L S σ else je X 89 4 L S σ := je_if_lt (show jm_fe 89 1 = some (jk_if .lt 16) from rfl)
theorem r_Function_has_4 : je X 89 4 [l0, some (.inl x)] S σ = je X 89 5 [l0, some (.inl x)] (.inl x :: S) σ := je_iload (show jm_fe 89 4 = some (jk_iload 1 1) from rfl) rfl
theorem r_Function_has_5 : je X 89 5 [some (.inr r), l1] S σ = je X 89 6 [some (.inr r), l1] (.inr r :: S) σ := je_aload (show jm_fe 89 5 = some (jk_aload 0 1) from rfl) rfl
theorem r_Function_has_6 : je X 89 6 L (.inr (.inl (some a)) :: S) σ = je_v X 89 9 L S σ (jm_gf σ.1 a 2 10) := je_getf (show jm_fe 89 6 = some (jk_getf 2 10) from rfl)
theorem r_Function_has_9 : je X 89 9 L (.inl q :: .inl p :: S) σ = if q ≤ p then je X 89 16 L S σ else je X 89 12 L S σ := je_icmp_ge (show jm_fe 89 9 = some (jk_icmp .ge 16) from rfl)
theorem r_Function_has_12 : je X 89 12 L S σ = je X 89 13 L (.inl 1 :: S) σ := je_const (show jm_fe 89 12 = some (jk_const 1 1) from rfl)
theorem r_Function_has_13 : je X 89 13 L S σ = je X 89 17 L S σ := je_goto (show jm_fe 89 13 = some (jk_goto 17) from rfl)
theorem r_Function_has_16 : je X 89 16 L S σ = je X 89 17 L (.inl 0 :: S) σ := je_const (show jm_fe 89 16 = some (jk_const 0 1) from rfl)
theorem r_Function_has_17 (hx : p = 0 ∨ p = 1) : je X 89 17 L [.inl p] σ = some (some (.inl p), σ) := je_zret (show jm_fe 89 17 = some (jk_zret) from rfl) hx
theorem r_Function_append_0 : je X 90 0 [some (.inr r), l1, l2] S σ = je X 90 1 [some (.inr r), l1, l2] (.inr r :: S) σ := je_aload (show jm_fe 90 0 = some (jk_aload 0 1) from rfl) rfl
theorem r_Function_append_1 : je X 90 1 L (.inr (.inl (some a)) :: S) σ = je_v X 90 4 L S σ (jm_gf σ.1 a 2 10) := je_getf (show jm_fe 90 1 = some (jk_getf 2 10) from rfl)
theorem r_Function_append_4 : je X 90 4 L S σ = je X 90 6 L (.inl 100 :: S) σ := je_const (show jm_fe 90 4 = some (jk_const (100) 2) from rfl)
theorem r_Function_append_6 : je X 90 6 L (.inl q :: .inl p :: S) σ = if q ≤ p then je X 90 16 L S σ else je X 90 9 L S σ := je_icmp_ge (show jm_fe 90 6 = some (jk_icmp .ge 16) from rfl)
theorem r_Function_append_9 : je X 90 9 [l0, some (.inl x), l2] S σ = je X 90 10 [l0, some (.inl x), l2] (.inl x :: S) σ := je_iload (show jm_fe 90 9 = some (jk_iload 1 1) from rfl) rfl
theorem r_Function_append_10 (h8 : S.length ≤ 8) : je X 90 10 L (v0 :: S) σ = je_c X 90 13 L S (je X 95 0 [some v0] [] σ) := je_callS (as := [v0]) (S' := S) (show jm_fe 90 10 = some (jk_callS 95 1) from rfl) rfl h8
theorem r_Function_append_13 : je X 90 13 L (.inl p :: S) σ = if p = 0 then je X 90 16 L S σ else je X 90 18 L S σ := je_if_ne (show jm_fe 90 13 = some (jk_if .ne 18) from rfl)
theorem r_Function_append_16 : je X 90 16 L S σ = je X 90 17 L (.inl (-1) :: S) σ := je_const (show jm_fe 90 16 = some (jk_const (-1) 1) from rfl)
theorem r_Function_append_17 : je X 90 17 L [.inl p] σ = some (some (.inl p), σ) := je_iret (show jm_fe 90 17 = some (jk_iret) from rfl)
theorem r_Function_append_18 : je X 90 18 [some (.inr r), l1, l2] S σ = je X 90 19 [some (.inr r), l1, l2] (.inr r :: S) σ := je_aload (show jm_fe 90 18 = some (jk_aload 0 1) from rfl) rfl
theorem r_Function_append_19 : je X 90 19 L (.inr (.inl (some a)) :: S) σ = je_v X 90 22 L S σ (jm_gf σ.1 a 2 0) := je_getf (show jm_fe 90 19 = some (jk_getf 2 0) from rfl)
theorem r_Function_append_22 : je X 90 22 [some (.inr r), l1, l2] S σ = je X 90 23 [some (.inr r), l1, l2] (.inr r :: S) σ := je_aload (show jm_fe 90 22 = some (jk_aload 0 1) from rfl) rfl
theorem r_Function_append_23 : je X 90 23 L (.inr (.inl (some a)) :: S) σ = je_v X 90 26 L S σ (jm_gf σ.1 a 2 10) := je_getf (show jm_fe 90 23 = some (jk_getf 2 10) from rfl)
theorem r_Function_append_26 : je X 90 26 [l0, some (.inl x), l2] S σ = je X 90 27 [l0, some (.inl x), l2] (.inl x :: S) σ := je_iload (show jm_fe 90 26 = some (jk_iload 1 1) from rfl) rfl
theorem r_Function_append_27 : je X 90 27 L (.inl q :: .inl p :: .inr (.inl (some a)) :: S) σ = je_h X 90 28 L S σ.2 (jm_as σ.1 a 0 p q) := je_iast (show jm_fe 90 27 = some (jk_iast) from rfl)
theorem r_Function_append_28 : je X 90 28 [some (.inr r), l1, l2] S σ = je X 90 29 [some (.inr r), l1, l2] (.inr r :: S) σ := je_aload (show jm_fe 90 28 = some (jk_aload 0 1) from rfl) rfl
theorem r_Function_append_29 : je X 90 29 L (.inr (.inl (some a)) :: S) σ = je_v X 90 32 L S σ (jm_gf σ.1 a 2 1) := je_getf (show jm_fe 90 29 = some (jk_getf 2 1) from rfl)
theorem r_Function_append_32 : je X 90 32 [some (.inr r), l1, l2] S σ = je X 90 33 [some (.inr r), l1, l2] (.inr r :: S) σ := je_aload (show jm_fe 90 32 = some (jk_aload 0 1) from rfl) rfl
theorem r_Function_append_33 : je X 90 33 L (.inr (.inl (some a)) :: S) σ = je_v X 90 36 L S σ (jm_gf σ.1 a 2 10) := je_getf (show jm_fe 90 33 = some (jk_getf 2 10) from rfl)
theorem r_Function_append_36 : je X 90 36 [l0, l1, some (.inl x)] S σ = je X 90 37 [l0, l1, some (.inl x)] (.inl x :: S) σ := je_iload (show jm_fe 90 36 = some (jk_iload 2 1) from rfl) rfl
theorem r_Function_append_37 : je X 90 37 L (.inl q :: .inl p :: .inr (.inl (some a)) :: S) σ = je_h X 90 38 L S σ.2 (jm_as σ.1 a 0 p q) := je_iast (show jm_fe 90 37 = some (jk_iast) from rfl)
theorem r_Function_append_38 : je X 90 38 [some (.inr r), l1, l2] S σ = je X 90 39 [some (.inr r), l1, l2] (.inr r :: S) σ := je_aload (show jm_fe 90 38 = some (jk_aload 0 1) from rfl) rfl
theorem r_Function_append_39 : je X 90 39 L (v :: S) σ = je X 90 40 L (v :: v :: S) σ := je_dup (show jm_fe 90 39 = some (jk_dup) from rfl)
theorem r_Function_append_40 : je X 90 40 L (.inr (.inl (some a)) :: S) σ = je_v X 90 43 L S σ (jm_gf σ.1 a 2 10) := je_getf (show jm_fe 90 40 = some (jk_getf 2 10) from rfl)
theorem r_Function_append_43 : je X 90 43 L S σ = je X 90 44 L (.inl 1 :: S) σ := je_const (show jm_fe 90 43 = some (jk_const 1 1) from rfl)
theorem r_Function_append_44 : je X 90 44 L (.inl q :: .inl p :: S) σ = je X 90 45 L (.inl (p + q) :: S) σ := je_bin (show jm_fe 90 44 = some (jb_iadd) from rfl)
theorem r_Function_append_45 : je X 90 45 L (v :: .inr (.inl (some a)) :: S) σ = je_h X 90 48 L S σ.2 (jm_pf σ.1 a 2 10 0 v) := je_putf (show jm_fe 90 45 = some (jk_putf 2 10 0) from rfl)
theorem r_Function_append_48 : je X 90 48 [some (.inr r), l1, l2] S σ = je X 90 49 [some (.inr r), l1, l2] (.inr r :: S) σ := je_aload (show jm_fe 90 48 = some (jk_aload 0 1) from rfl) rfl
theorem r_Function_append_49 : je X 90 49 L (.inr (.inl (some a)) :: S) σ = je_v X 90 52 L S σ (jm_gf σ.1 a 2 10) := je_getf (show jm_fe 90 49 = some (jk_getf 2 10) from rfl)
theorem r_Function_append_52 : je X 90 52 L S σ = je X 90 53 L (.inl 1 :: S) σ := je_const (show jm_fe 90 52 = some (jk_const 1 1) from rfl)
theorem r_Function_append_53 : je X 90 53 L (.inl q :: .inl p :: S) σ = je X 90 54 L (.inl (p - q) :: S) σ := je_bin (show jm_fe 90 53 = some (jb_isub) from rfl)
theorem r_Function_append_54 : je X 90 54 L [.inl p] σ = some (some (.inl p), σ) := je_iret (show jm_fe 90 54 = some (jk_iret) from rfl)
theorem r_Function_replace_0 : je X 91 0 [some (.inr r), l1, l2, l3] S σ = je X 91 1 [some (.inr r), l1, l2, l3] (.inr r :: S) σ := je_aload (show jm_fe 91 0 = some (jk_aload 0 1) from rfl) rfl
theorem r_Function_replace_1 : je X 91 1 [l0, some (.inl x), l2, l3] S σ = je X 91 2 [l0, some (.inl x), l2, l3] (.inl x :: S) σ := je_iload (show jm_fe 91 1 = some (jk_iload 1 1) from rfl) rfl
theorem r_Function_replace_2 (hc : jm_cl σ.1 a = some 2) (h8 : S.length ≤ 8) : je X 91 2 L (v0 :: .inr (.inl (some a)) :: S) σ = je_c X 91 5 L S (je X 89 0 [some (.inr (.inl (some a))), some v0] [] σ) := je_callV (as := [v0]) (S' := S) (show jm_fe 91 2 = some (jk_callV 89 1 2) from rfl) rfl hc h8
theorem r_Function_replace_5 : je X 91 5 L (.inl p :: S) σ = if p = 0 then je X 91 15 L S σ else je X 91 8 L S σ := je_if_eq (show jm_fe 91 5 = some (jk_if .eq 15) from rfl)
theorem r_Function_replace_8 : je X 91 8 [l0, l1, some (.inl x), l3] S σ = je X 91 9 [l0, l1, some (.inl x), l3] (.inl x :: S) σ := je_iload (show jm_fe 91 8 = some (jk_iload 2 1) from rfl) rfl
theorem r_Function_replace_9 (h8 : S.length ≤ 8) : je X 91 9 L (v0 :: S) σ = je_c X 91 12 L S (je X 95 0 [some v0] [] σ) := je_callS (as := [v0]) (S' := S) (show jm_fe 91 9 = some (jk_callS 95 1) from rfl) rfl h8
theorem r_Function_replace_12 : je X 91 12 L (.inl p :: S) σ = if p = 0 then je X 91 15 L S σ else je X 91 17 L S σ := je_if_ne (show jm_fe 91 12 = some (jk_if .ne 17) from rfl)
theorem r_Function_replace_15 : je X 91 15 L S σ = je X 91 16 L (.inl 0 :: S) σ := je_const (show jm_fe 91 15 = some (jk_const 0 1) from rfl)
theorem r_Function_replace_16 (hx : p = 0 ∨ p = 1) : je X 91 16 L [.inl p] σ = some (some (.inl p), σ) := je_zret (show jm_fe 91 16 = some (jk_zret) from rfl) hx
theorem r_Function_replace_17 : je X 91 17 [some (.inr r), l1, l2, l3] S σ = je X 91 18 [some (.inr r), l1, l2, l3] (.inr r :: S) σ := je_aload (show jm_fe 91 17 = some (jk_aload 0 1) from rfl) rfl
theorem r_Function_replace_18 : je X 91 18 L (.inr (.inl (some a)) :: S) σ = je_v X 91 21 L S σ (jm_gf σ.1 a 2 0) := je_getf (show jm_fe 91 18 = some (jk_getf 2 0) from rfl)
theorem r_Function_replace_21 : je X 91 21 [l0, some (.inl x), l2, l3] S σ = je X 91 22 [l0, some (.inl x), l2, l3] (.inl x :: S) σ := je_iload (show jm_fe 91 21 = some (jk_iload 1 1) from rfl) rfl
theorem r_Function_replace_22 : je X 91 22 [l0, l1, some (.inl x), l3] S σ = je X 91 23 [l0, l1, some (.inl x), l3] (.inl x :: S) σ := je_iload (show jm_fe 91 22 = some (jk_iload 2 1) from rfl) rfl
theorem r_Function_replace_23 : je X 91 23 L (.inl q :: .inl p :: .inr (.inl (some a)) :: S) σ = je_h X 91 24 L S σ.2 (jm_as σ.1 a 0 p q) := je_iast (show jm_fe 91 23 = some (jk_iast) from rfl)
theorem r_Function_replace_24 : je X 91 24 [some (.inr r), l1, l2, l3] S σ = je X 91 25 [some (.inr r), l1, l2, l3] (.inr r :: S) σ := je_aload (show jm_fe 91 24 = some (jk_aload 0 1) from rfl) rfl
theorem r_Function_replace_25 : je X 91 25 L (.inr (.inl (some a)) :: S) σ = je_v X 91 28 L S σ (jm_gf σ.1 a 2 1) := je_getf (show jm_fe 91 25 = some (jk_getf 2 1) from rfl)
theorem r_Function_replace_28 : je X 91 28 [l0, some (.inl x), l2, l3] S σ = je X 91 29 [l0, some (.inl x), l2, l3] (.inl x :: S) σ := je_iload (show jm_fe 91 28 = some (jk_iload 1 1) from rfl) rfl
theorem r_Function_replace_29 : je X 91 29 [l0, l1, l2, some (.inl x)] S σ = je X 91 30 [l0, l1, l2, some (.inl x)] (.inl x :: S) σ := je_iload (show jm_fe 91 29 = some (jk_iload 3 1) from rfl) rfl
theorem r_Function_replace_30 : je X 91 30 L (.inl q :: .inl p :: .inr (.inl (some a)) :: S) σ = je_h X 91 31 L S σ.2 (jm_as σ.1 a 0 p q) := je_iast (show jm_fe 91 30 = some (jk_iast) from rfl)
theorem r_Function_replace_31 : je X 91 31 L S σ = je X 91 32 L (.inl 1 :: S) σ := je_const (show jm_fe 91 31 = some (jk_const 1 1) from rfl)
theorem r_Function_replace_32 (hx : p = 0 ∨ p = 1) : je X 91 32 L [.inl p] σ = some (some (.inl p), σ) := je_zret (show jm_fe 91 32 = some (jk_zret) from rfl) hx
theorem r_Function_guard_0 : je X 92 0 [some (.inr r), l1, l2, l3] S σ = je X 92 1 [some (.inr r), l1, l2, l3] (.inr r :: S) σ := je_aload (show jm_fe 92 0 = some (jk_aload 0 1) from rfl) rfl
theorem r_Function_guard_1 : je X 92 1 L (.inr (.inl (some a)) :: S) σ = je_v X 92 4 L S σ (jm_gf σ.1 a 2 11) := je_getf (show jm_fe 92 1 = some (jk_getf 2 11) from rfl)
theorem r_Function_guard_4 : je X 92 4 L S σ = je X 92 5 L (.inl 4 :: S) σ := je_const (show jm_fe 92 4 = some (jk_const 4 1) from rfl)
theorem r_Function_guard_5 : je X 92 5 L (.inl q :: .inl p :: S) σ = if q ≤ p then je X 92 29 L S σ else je X 92 8 L S σ := je_icmp_ge (show jm_fe 92 5 = some (jk_icmp .ge 29) from rfl)
theorem r_Function_guard_8 : je X 92 8 [l0, some (.inl x), l2, l3] S σ = je X 92 9 [l0, some (.inl x), l2, l3] (.inl x :: S) σ := je_iload (show jm_fe 92 8 = some (jk_iload 1 1) from rfl) rfl
theorem r_Function_guard_9 (h8 : S.length ≤ 8) : je X 92 9 L (v0 :: S) σ = je_c X 92 12 L S (je X 96 0 [some v0] [] σ) := je_callS (as := [v0]) (S' := S) (show jm_fe 92 9 = some (jk_callS 96 1) from rfl) rfl h8
theorem r_Function_guard_12 : je X 92 12 L (.inl p :: S) σ = if p = 0 then je X 92 29 L S σ else je X 92 15 L S σ := je_if_eq (show jm_fe 92 12 = some (jk_if .eq 29) from rfl)
theorem r_Function_guard_15 : je X 92 15 [l0, l1, some (.inl x), l3] S σ = je X 92 16 [l0, l1, some (.inl x), l3] (.inl x :: S) σ := je_iload (show jm_fe 92 15 = some (jk_iload 2 1) from rfl) rfl
theorem r_Function_guard_16 (h8 : S.length ≤ 8) : je X 92 16 L (v0 :: S) σ = je_c X 92 19 L S (je X 96 0 [some v0] [] σ) := je_callS (as := [v0]) (S' := S) (show jm_fe 92 16 = some (jk_callS 96 1) from rfl) rfl h8
theorem r_Function_guard_19 : je X 92 19 L (.inl p :: S) σ = if p = 0 then je X 92 29 L S σ else je X 92 22 L S σ := je_if_eq (show jm_fe 92 19 = some (jk_if .eq 29) from rfl)
theorem r_Function_guard_22 : je X 92 22 [l0, l1, l2, some (.inl x)] S σ = je X 92 23 [l0, l1, l2, some (.inl x)] (.inl x :: S) σ := je_iload (show jm_fe 92 22 = some (jk_iload 3 1) from rfl) rfl
theorem r_Function_guard_23 (h8 : S.length ≤ 8) : je X 92 23 L (v0 :: S) σ = je_c X 92 26 L S (je X 96 0 [some v0] [] σ) := je_callS (as := [v0]) (S' := S) (show jm_fe 92 23 = some (jk_callS 96 1) from rfl) rfl h8
theorem r_Function_guard_26 : je X 92 26 L (.inl p :: S) σ = if p = 0 then je X 92 29 L S σ else je X 92 31 L S σ := je_if_ne (show jm_fe 92 26 = some (jk_if .ne 31) from rfl)
theorem r_Function_guard_29 : je X 92 29 L S σ = je X 92 30 L (.inl 0 :: S) σ := je_const (show jm_fe 92 29 = some (jk_const 0 1) from rfl)
theorem r_Function_guard_30 (hx : p = 0 ∨ p = 1) : je X 92 30 L [.inl p] σ = some (some (.inl p), σ) := je_zret (show jm_fe 92 30 = some (jk_zret) from rfl) hx
theorem r_Function_guard_31 : je X 92 31 [some (.inr r), l1, l2, l3] S σ = je X 92 32 [some (.inr r), l1, l2, l3] (.inr r :: S) σ := je_aload (show jm_fe 92 31 = some (jk_aload 0 1) from rfl) rfl
theorem r_Function_guard_32 : je X 92 32 L (.inr (.inl (some a)) :: S) σ = je_v X 92 35 L S σ (jm_gf σ.1 a 2 2) := je_getf (show jm_fe 92 32 = some (jk_getf 2 2) from rfl)
theorem r_Function_guard_35 : je X 92 35 [some (.inr r), l1, l2, l3] S σ = je X 92 36 [some (.inr r), l1, l2, l3] (.inr r :: S) σ := je_aload (show jm_fe 92 35 = some (jk_aload 0 1) from rfl) rfl
theorem r_Function_guard_36 : je X 92 36 L (.inr (.inl (some a)) :: S) σ = je_v X 92 39 L S σ (jm_gf σ.1 a 2 11) := je_getf (show jm_fe 92 36 = some (jk_getf 2 11) from rfl)
theorem r_Function_guard_39 : je X 92 39 [l0, some (.inl x), l2, l3] S σ = je X 92 40 [l0, some (.inl x), l2, l3] (.inl x :: S) σ := je_iload (show jm_fe 92 39 = some (jk_iload 1 1) from rfl) rfl
theorem r_Function_guard_40 : je X 92 40 L (.inl q :: .inl p :: .inr (.inl (some a)) :: S) σ = je_h X 92 41 L S σ.2 (jm_as σ.1 a 0 p q) := je_iast (show jm_fe 92 40 = some (jk_iast) from rfl)
theorem r_Function_guard_41 : je X 92 41 [some (.inr r), l1, l2, l3] S σ = je X 92 42 [some (.inr r), l1, l2, l3] (.inr r :: S) σ := je_aload (show jm_fe 92 41 = some (jk_aload 0 1) from rfl) rfl
theorem r_Function_guard_42 : je X 92 42 L (.inr (.inl (some a)) :: S) σ = je_v X 92 45 L S σ (jm_gf σ.1 a 2 3) := je_getf (show jm_fe 92 42 = some (jk_getf 2 3) from rfl)
theorem r_Function_guard_45 : je X 92 45 [some (.inr r), l1, l2, l3] S σ = je X 92 46 [some (.inr r), l1, l2, l3] (.inr r :: S) σ := je_aload (show jm_fe 92 45 = some (jk_aload 0 1) from rfl) rfl
theorem r_Function_guard_46 : je X 92 46 L (.inr (.inl (some a)) :: S) σ = je_v X 92 49 L S σ (jm_gf σ.1 a 2 11) := je_getf (show jm_fe 92 46 = some (jk_getf 2 11) from rfl)
theorem r_Function_guard_49 : je X 92 49 [l0, l1, some (.inl x), l3] S σ = je X 92 50 [l0, l1, some (.inl x), l3] (.inl x :: S) σ := je_iload (show jm_fe 92 49 = some (jk_iload 2 1) from rfl) rfl
theorem r_Function_guard_50 : je X 92 50 L (.inl q :: .inl p :: .inr (.inl (some a)) :: S) σ = je_h X 92 51 L S σ.2 (jm_as σ.1 a 0 p q) := je_iast (show jm_fe 92 50 = some (jk_iast) from rfl)
theorem r_Function_guard_51 : je X 92 51 [some (.inr r), l1, l2, l3] S σ = je X 92 52 [some (.inr r), l1, l2, l3] (.inr r :: S) σ := je_aload (show jm_fe 92 51 = some (jk_aload 0 1) from rfl) rfl
theorem r_Function_guard_52 : je X 92 52 L (.inr (.inl (some a)) :: S) σ = je_v X 92 55 L S σ (jm_gf σ.1 a 2 4) := je_getf (show jm_fe 92 52 = some (jk_getf 2 4) from rfl)
theorem r_Function_guard_55 : je X 92 55 [some (.inr r), l1, l2, l3] S σ = je X 92 56 [some (.inr r), l1, l2, l3] (.inr r :: S) σ := je_aload (show jm_fe 92 55 = some (jk_aload 0 1) from rfl) rfl
theorem r_Function_guard_56 : je X 92 56 L (.inr (.inl (some a)) :: S) σ = je_v X 92 59 L S σ (jm_gf σ.1 a 2 11) := je_getf (show jm_fe 92 56 = some (jk_getf 2 11) from rfl)
theorem r_Function_guard_59 : je X 92 59 [l0, l1, l2, some (.inl x)] S σ = je X 92 60 [l0, l1, l2, some (.inl x)] (.inl x :: S) σ := je_iload (show jm_fe 92 59 = some (jk_iload 3 1) from rfl) rfl
theorem r_Function_guard_60 : je X 92 60 L (.inl q :: .inl p :: .inr (.inl (some a)) :: S) σ = je_h X 92 61 L S σ.2 (jm_as σ.1 a 0 p q) := je_iast (show jm_fe 92 60 = some (jk_iast) from rfl)
theorem r_Function_guard_61 : je X 92 61 [some (.inr r), l1, l2, l3] S σ = je X 92 62 [some (.inr r), l1, l2, l3] (.inr r :: S) σ := je_aload (show jm_fe 92 61 = some (jk_aload 0 1) from rfl) rfl
theorem r_Function_guard_62 : je X 92 62 L (.inr (.inl (some a)) :: S) σ = je_v X 92 65 L S σ (jm_gf σ.1 a 2 6) := je_getf (show jm_fe 92 62 = some (jk_getf 2 6) from rfl)
theorem r_Function_guard_65 : je X 92 65 [some (.inr r), l1, l2, l3] S σ = je X 92 66 [some (.inr r), l1, l2, l3] (.inr r :: S) σ := je_aload (show jm_fe 92 65 = some (jk_aload 0 1) from rfl) rfl
theorem r_Function_guard_66 : je X 92 66 L (.inr (.inl (some a)) :: S) σ = je_v X 92 69 L S σ (jm_gf σ.1 a 2 11) := je_getf (show jm_fe 92 66 = some (jk_getf 2 11) from rfl)
theorem r_Function_guard_69 : je X 92 69 L S σ = je X 92 70 L (.inl 0 :: S) σ := je_const (show jm_fe 92 69 = some (jk_const 0 1) from rfl)
theorem r_Function_guard_70 : je X 92 70 L (.inl q :: .inl p :: .inr (.inl (some a)) :: S) σ = je_h X 92 71 L S σ.2 (jm_as σ.1 a 1 p (vp_nar .boolean q)) := je_zast (show jm_fe 92 70 = some (jk_zast) from rfl)
set_option maxRecDepth 20000 in
theorem r_Function_guard_71 : je X 92 71 [some (.inr r), l1, l2, l3] S σ = je X 92 72 [some (.inr r), l1, l2, l3] (.inr r :: S) σ := je_aload (show jm_fe 92 71 = some (jk_aload 0 1) from rfl) rfl
set_option maxRecDepth 20000 in
theorem r_Function_guard_72 : je X 92 72 L (v :: S) σ = je X 92 73 L (v :: v :: S) σ := je_dup (show jm_fe 92 72 = some (jk_dup) from rfl)
set_option maxRecDepth 20000 in
theorem r_Function_guard_73 : je X 92 73 L (.inr (.inl (some a)) :: S) σ = je_v X 92 76 L S σ (jm_gf σ.1 a 2 11) := je_getf (show jm_fe 92 73 = some (jk_getf 2 11) from rfl)
set_option maxRecDepth 20000 in
theorem r_Function_guard_76 : je X 92 76 L S σ = je X 92 77 L (.inl 1 :: S) σ := je_const (show jm_fe 92 76 = some (jk_const 1 1) from rfl)
set_option maxRecDepth 20000 in
theorem r_Function_guard_77 : je X 92 77 L (.inl q :: .inl p :: S) σ = je X 92 78 L (.inl (p + q) :: S) σ := je_bin (show jm_fe 92 77 = some (jb_iadd) from rfl)
set_option maxRecDepth 20000 in
theorem r_Function_guard_78 : je X 92 78 L (v :: .inr (.inl (some a)) :: S) σ = je_h X 92 81 L S σ.2 (jm_pf σ.1 a 2 11 0 v) := je_putf (show jm_fe 92 78 = some (jk_putf 2 11 0) from rfl)
set_option maxRecDepth 20000 in
theorem r_Function_guard_81 : je X 92 81 L S σ = je X 92 82 L (.inl 1 :: S) σ := je_const (show jm_fe 92 81 = some (jk_const 1 1) from rfl)
set_option maxRecDepth 20000 in
theorem r_Function_guard_82 (hx : p = 0 ∨ p = 1) : je X 92 82 L [.inl p] σ = some (some (.inl p), σ) := je_zret (show jm_fe 92 82 = some (jk_zret) from rfl) hx
theorem r_Function_narrow_0 : je X 93 0 [some (.inr r), l1] S σ = je X 93 1 [some (.inr r), l1] (.inr r :: S) σ := je_aload (show jm_fe 93 0 = some (jk_aload 0 1) from rfl) rfl
theorem r_Function_narrow_1 : je X 93 1 L (.inr (.inl (some a)) :: S) σ = je_v X 93 4 L S σ (jm_gf σ.1 a 2 11) := je_getf (show jm_fe 93 1 = some (jk_getf 2 11) from rfl)
theorem r_Function_narrow_4 : je X 93 4 L S σ = je X 93 5 L (.inl 1 :: S) σ := je_const (show jm_fe 93 4 = some (jk_const 1 1) from rfl)
theorem r_Function_narrow_5 : je X 93 5 L (.inl q :: .inl p :: S) σ = if q ≤ p then je X 93 10 L S σ else je X 93 8 L S σ := je_icmp_ge (show jm_fe 93 5 = some (jk_icmp .ge 10) from rfl)
theorem r_Function_narrow_8 : je X 93 8 L S σ = je X 93 9 L (.inl 0 :: S) σ := je_const (show jm_fe 93 8 = some (jk_const 0 1) from rfl)
theorem r_Function_narrow_9 (hx : p = 0 ∨ p = 1) : je X 93 9 L [.inl p] σ = some (some (.inl p), σ) := je_zret (show jm_fe 93 9 = some (jk_zret) from rfl) hx
theorem r_Function_narrow_10 : je X 93 10 [some (.inr r), l1] S σ = je X 93 11 [some (.inr r), l1] (.inr r :: S) σ := je_aload (show jm_fe 93 10 = some (jk_aload 0 1) from rfl) rfl
theorem r_Function_narrow_11 : je X 93 11 L (.inr (.inl (some a)) :: S) σ = je_v X 93 14 L S σ (jm_gf σ.1 a 2 5) := je_getf (show jm_fe 93 11 = some (jk_getf 2 5) from rfl)
theorem r_Function_narrow_14 : je X 93 14 [some (.inr r), l1] S σ = je X 93 15 [some (.inr r), l1] (.inr r :: S) σ := je_aload (show jm_fe 93 14 = some (jk_aload 0 1) from rfl) rfl
theorem r_Function_narrow_15 : je X 93 15 L (.inr (.inl (some a)) :: S) σ = je_v X 93 18 L S σ (jm_gf σ.1 a 2 11) := je_getf (show jm_fe 93 15 = some (jk_getf 2 11) from rfl)
theorem r_Function_narrow_18 : je X 93 18 L S σ = je X 93 19 L (.inl 1 :: S) σ := je_const (show jm_fe 93 18 = some (jk_const 1 1) from rfl)
theorem r_Function_narrow_19 : je X 93 19 L (.inl q :: .inl p :: S) σ = je X 93 20 L (.inl (p - q) :: S) σ := je_bin (show jm_fe 93 19 = some (jb_isub) from rfl)
theorem r_Function_narrow_20 : je X 93 20 [l0, some (.inl x)] S σ = je X 93 21 [l0, some (.inl x)] (.inl x :: S) σ := je_iload (show jm_fe 93 20 = some (jk_iload 1 1) from rfl) rfl
theorem r_Function_narrow_21 : je X 93 21 L (.inl q :: .inl p :: .inr (.inl (some a)) :: S) σ = je_h X 93 22 L S σ.2 (jm_as σ.1 a 0 p q) := je_iast (show jm_fe 93 21 = some (jk_iast) from rfl)
theorem r_Function_narrow_22 : je X 93 22 [some (.inr r), l1] S σ = je X 93 23 [some (.inr r), l1] (.inr r :: S) σ := je_aload (show jm_fe 93 22 = some (jk_aload 0 1) from rfl) rfl
theorem r_Function_narrow_23 : je X 93 23 L (.inr (.inl (some a)) :: S) σ = je_v X 93 26 L S σ (jm_gf σ.1 a 2 6) := je_getf (show jm_fe 93 23 = some (jk_getf 2 6) from rfl)
theorem r_Function_narrow_26 : je X 93 26 [some (.inr r), l1] S σ = je X 93 27 [some (.inr r), l1] (.inr r :: S) σ := je_aload (show jm_fe 93 26 = some (jk_aload 0 1) from rfl) rfl
theorem r_Function_narrow_27 : je X 93 27 L (.inr (.inl (some a)) :: S) σ = je_v X 93 30 L S σ (jm_gf σ.1 a 2 11) := je_getf (show jm_fe 93 27 = some (jk_getf 2 11) from rfl)
theorem r_Function_narrow_30 : je X 93 30 L S σ = je X 93 31 L (.inl 1 :: S) σ := je_const (show jm_fe 93 30 = some (jk_const 1 1) from rfl)
theorem r_Function_narrow_31 : je X 93 31 L (.inl q :: .inl p :: S) σ = je X 93 32 L (.inl (p - q) :: S) σ := je_bin (show jm_fe 93 31 = some (jb_isub) from rfl)
theorem r_Function_narrow_32 : je X 93 32 L S σ = je X 93 33 L (.inl 1 :: S) σ := je_const (show jm_fe 93 32 = some (jk_const 1 1) from rfl)
theorem r_Function_narrow_33 : je X 93 33 L (.inl q :: .inl p :: .inr (.inl (some a)) :: S) σ = je_h X 93 34 L S σ.2 (jm_as σ.1 a 1 p (vp_nar .boolean q)) := je_zast (show jm_fe 93 33 = some (jk_zast) from rfl)
theorem r_Function_narrow_34 : je X 93 34 L S σ = je X 93 35 L (.inl 1 :: S) σ := je_const (show jm_fe 93 34 = some (jk_const 1 1) from rfl)
theorem r_Function_narrow_35 (hx : p = 0 ∨ p = 1) : je X 93 35 L [.inl p] σ = some (some (.inl p), σ) := je_zret (show jm_fe 93 35 = some (jk_zret) from rfl) hx
theorem r_Function_targetFor_0 : je X 94 0 L S σ = je X 94 1 L (.inl 0 :: S) σ := je_const (show jm_fe 94 0 = some (jk_const 0 1) from rfl)
theorem r_Function_targetFor_1 : je X 94 1 [l0, l1, l2, l3, l4] (.inl x :: S) σ = je X 94 2 [l0, l1, l2, some (.inl x), l4] S σ := je_istore (show jm_fe 94 1 = some (jk_istore 3 1) from rfl) (Nat.le_of_ble_eq_true rfl)
theorem r_Function_targetFor_2 : je X 94 2 [l0, l1, l2, some (.inl x), l4] S σ = je X 94 3 [l0, l1, l2, some (.inl x), l4] (.inl x :: S) σ := je_iload (show jm_fe 94 2 = some (jk_iload 3 1) from rfl) rfl
theorem r_Function_targetFor_3 : je X 94 3 [some (.inr r), l1, l2, l3, l4] S σ = je X 94 4 [some (.inr r), l1, l2, l3, l4] (.inr r :: S) σ := je_aload (show jm_fe 94 3 = some (jk_aload 0 1) from rfl) rfl
theorem r_Function_targetFor_4 : je X 94 4 L (.inr (.inl (some a)) :: S) σ = je_v X 94 7 L S σ (jm_gf σ.1 a 2 11) := je_getf (show jm_fe 94 4 = some (jk_getf 2 11) from rfl)
theorem r_Function_targetFor_7 : je X 94 7 L (.inl q :: .inl p :: S) σ = if q ≤ p then je X 94 74 L S σ else je X 94 10 L S σ := je_icmp_ge (show jm_fe 94 7 = some (jk_icmp .ge 74) from rfl)
theorem r_Function_targetFor_10 : je X 94 10 [some (.inr r), l1, l2, l3, l4] S σ = je X 94 11 [some (.inr r), l1, l2, l3, l4] (.inr r :: S) σ := je_aload (show jm_fe 94 10 = some (jk_aload 0 1) from rfl) rfl
theorem r_Function_targetFor_11 : je X 94 11 L (.inr (.inl (some a)) :: S) σ = je_v X 94 14 L S σ (jm_gf σ.1 a 2 2) := je_getf (show jm_fe 94 11 = some (jk_getf 2 2) from rfl)
theorem r_Function_targetFor_14 : je X 94 14 [l0, l1, l2, some (.inl x), l4] S σ = je X 94 15 [l0, l1, l2, some (.inl x), l4] (.inl x :: S) σ := je_iload (show jm_fe 94 14 = some (jk_iload 3 1) from rfl) rfl
theorem r_Function_targetFor_15 : je X 94 15 L (.inl p :: .inr (.inl (some a)) :: S) σ = je_i X 94 16 L S σ (jm_al σ.1 a 0 p) := je_ald (show jm_fe 94 15 = some (jk_ald 0) from rfl)
theorem r_Function_targetFor_16 : je X 94 16 [l0, some (.inl x), l2, l3, l4] S σ = je X 94 17 [l0, some (.inl x), l2, l3, l4] (.inl x :: S) σ := je_iload (show jm_fe 94 16 = some (jk_iload 1 1) from rfl) rfl
theorem r_Function_targetFor_17 : je X 94 17 L (.inl q :: .inl p :: S) σ = if q < p then je X 94 34 L S σ else je X 94 20 L S σ := je_icmp_gt (show jm_fe 94 17 = some (jk_icmp .gt 34) from rfl)
theorem r_Function_targetFor_20 : je X 94 20 [l0, some (.inl x), l2, l3, l4] S σ = je X 94 21 [l0, some (.inl x), l2, l3, l4] (.inl x :: S) σ := je_iload (show jm_fe 94 20 = some (jk_iload 1 1) from rfl) rfl
theorem r_Function_targetFor_21 : je X 94 21 [some (.inr r), l1, l2, l3, l4] S σ = je X 94 22 [some (.inr r), l1, l2, l3, l4] (.inr r :: S) σ := je_aload (show jm_fe 94 21 = some (jk_aload 0 1) from rfl) rfl
theorem r_Function_targetFor_22 : je X 94 22 L (.inr (.inl (some a)) :: S) σ = je_v X 94 25 L S σ (jm_gf σ.1 a 2 3) := je_getf (show jm_fe 94 22 = some (jk_getf 2 3) from rfl)
theorem r_Function_targetFor_25 : je X 94 25 [l0, l1, l2, some (.inl x), l4] S σ = je X 94 26 [l0, l1, l2, some (.inl x), l4] (.inl x :: S) σ := je_iload (show jm_fe 94 25 = some (jk_iload 3 1) from rfl) rfl
theorem r_Function_targetFor_26 : je X 94 26 L (.inl p :: .inr (.inl (some a)) :: S) σ = je_i X 94 27 L S σ (jm_al σ.1 a 0 p) := je_ald (show jm_fe 94 26 = some (jk_ald 0) from rfl)
theorem r_Function_targetFor_27 : je X 94 27 L (.inl q :: .inl p :: S) σ = if q ≤ p then je X 94 34 L S σ else je X 94 30 L S σ := je_icmp_ge (show jm_fe 94 27 = some (jk_icmp .ge 34) from rfl)
theorem r_Function_targetFor_30 : je X 94 30 L S σ = je X 94 31 L (.inl 1 :: S) σ := je_const (show jm_fe 94 30 = some (jk_const 1 1) from rfl)
theorem r_Function_targetFor_31 : je X 94 31 L S σ = je X 94 35 L S σ := je_goto (show jm_fe 94 31 = some (jk_goto 35) from rfl)
theorem r_Function_targetFor_34 : je X 94 34 L S σ = je X 94 35 L (.inl 0 :: S) σ := je_const (show jm_fe 94 34 = some (jk_const 0 1) from rfl)
theorem r_Function_targetFor_35 : je X 94 35 [l0, l1, l2, l3, l4] (.inl x :: S) σ = je X 94 37 [l0, l1, l2, l3, some (.inl x)] S σ := je_istore (show jm_fe 94 35 = some (jk_istore 4 2) from rfl) (Nat.le_of_ble_eq_true rfl)
theorem r_Function_targetFor_37 : je X 94 37 [l0, l1, l2, l3, some (.inl x)] S σ = je X 94 39 [l0, l1, l2, l3, some (.inl x)] (.inl x :: S) σ := je_iload (show jm_fe 94 37 = some (jk_iload 4 2) from rfl) rfl
theorem r_Function_targetFor_39 : je X 94 39 L (.inl p :: S) σ = if p = 0 then je X 94 68 L S σ else je X 94 42 L S σ := je_if_eq (show jm_fe 94 39 = some (jk_if .eq 68) from rfl)
theorem r_Function_targetFor_42 : je X 94 42 [some (.inr r), l1, l2, l3, l4] S σ = je X 94 43 [some (.inr r), l1, l2, l3, l4] (.inr r :: S) σ := je_aload (show jm_fe 94 42 = some (jk_aload 0 1) from rfl) rfl
theorem r_Function_targetFor_43 : je X 94 43 L (.inr (.inl (some a)) :: S) σ = je_v X 94 46 L S σ (jm_gf σ.1 a 2 6) := je_getf (show jm_fe 94 43 = some (jk_getf 2 6) from rfl)
theorem r_Function_targetFor_46 : je X 94 46 [l0, l1, l2, some (.inl x), l4] S σ = je X 94 47 [l0, l1, l2, some (.inl x), l4] (.inl x :: S) σ := je_iload (show jm_fe 94 46 = some (jk_iload 3 1) from rfl) rfl
theorem r_Function_targetFor_47 : je X 94 47 L (.inl p :: .inr (.inl (some a)) :: S) σ = je_i X 94 48 L S σ (jm_al σ.1 a 1 p) := je_ald (show jm_fe 94 47 = some (jk_ald 1) from rfl)
theorem r_Function_targetFor_48 : je X 94 48 L (.inl p :: S) σ = if p = 0 then je X 94 61 L S σ else je X 94 51 L S σ := je_if_eq (show jm_fe 94 48 = some (jk_if .eq 61) from rfl)
theorem r_Function_targetFor_51 : je X 94 51 [some (.inr r), l1, l2, l3, l4] S σ = je X 94 52 [some (.inr r), l1, l2, l3, l4] (.inr r :: S) σ := je_aload (show jm_fe 94 51 = some (jk_aload 0 1) from rfl) rfl
theorem r_Function_targetFor_52 : je X 94 52 L (.inr (.inl (some a)) :: S) σ = je_v X 94 55 L S σ (jm_gf σ.1 a 2 5) := je_getf (show jm_fe 94 52 = some (jk_getf 2 5) from rfl)
theorem r_Function_targetFor_55 : je X 94 55 [l0, l1, l2, some (.inl x), l4] S σ = je X 94 56 [l0, l1, l2, some (.inl x), l4] (.inl x :: S) σ := je_iload (show jm_fe 94 55 = some (jk_iload 3 1) from rfl) rfl
theorem r_Function_targetFor_56 : je X 94 56 L (.inl p :: .inr (.inl (some a)) :: S) σ = je_i X 94 57 L S σ (jm_al σ.1 a 0 p) := je_ald (show jm_fe 94 56 = some (jk_ald 0) from rfl)
theorem r_Function_targetFor_57 : je X 94 57 [l0, l1, some (.inl x), l3, l4] S σ = je X 94 58 [l0, l1, some (.inl x), l3, l4] (.inl x :: S) σ := je_iload (show jm_fe 94 57 = some (jk_iload 2 1) from rfl) rfl
theorem r_Function_targetFor_58 : je X 94 58 L (.inl q :: .inl p :: S) σ = if p = q then je X 94 61 L S σ else je X 94 68 L S σ := je_icmp_ne (show jm_fe 94 58 = some (jk_icmp .ne 68) from rfl)
theorem r_Function_targetFor_61 : je X 94 61 [some (.inr r), l1, l2, l3, l4] S σ = je X 94 62 [some (.inr r), l1, l2, l3, l4] (.inr r :: S) σ := je_aload (show jm_fe 94 61 = some (jk_aload 0 1) from rfl) rfl
theorem r_Function_targetFor_62 : je X 94 62 L (.inr (.inl (some a)) :: S) σ = je_v X 94 65 L S σ (jm_gf σ.1 a 2 4) := je_getf (show jm_fe 94 62 = some (jk_getf 2 4) from rfl)
set_option maxRecDepth 20000 in
theorem r_Function_targetFor_65 : je X 94 65 [l0, l1, l2, some (.inl x), l4] S σ = je X 94 66 [l0, l1, l2, some (.inl x), l4] (.inl x :: S) σ := je_iload (show jm_fe 94 65 = some (jk_iload 3 1) from rfl) rfl
set_option maxRecDepth 20000 in
theorem r_Function_targetFor_66 : je X 94 66 L (.inl p :: .inr (.inl (some a)) :: S) σ = je_i X 94 67 L S σ (jm_al σ.1 a 0 p) := je_ald (show jm_fe 94 66 = some (jk_ald 0) from rfl)
set_option maxRecDepth 20000 in
theorem r_Function_targetFor_67 : je X 94 67 L [.inl p] σ = some (some (.inl p), σ) := je_iret (show jm_fe 94 67 = some (jk_iret) from rfl)
set_option maxRecDepth 20000 in
theorem r_Function_targetFor_68 : je X 94 68 [l0, l1, l2, some (.inl x), l4] S σ = je X 94 71 [l0, l1, l2, some (.inl (x + (1))), l4] S σ := je_iinc (show jm_fe 94 68 = some (jk_iinc 3 (1)) from rfl) rfl
set_option maxRecDepth 20000 in
theorem r_Function_targetFor_71 : je X 94 71 L S σ = je X 94 2 L S σ := je_goto (show jm_fe 94 71 = some (jk_goto 2) from rfl)
set_option maxRecDepth 20000 in
theorem r_Function_targetFor_74 : je X 94 74 L S σ = je X 94 75 L (.inl (-1) :: S) σ := je_const (show jm_fe 94 74 = some (jk_const (-1) 1) from rfl)
set_option maxRecDepth 20000 in
theorem r_Function_targetFor_75 : je X 94 75 L [.inl p] σ = some (some (.inl p), σ) := je_iret (show jm_fe 94 75 = some (jk_iret) from rfl)
theorem r_Function_isOperation_0 : je X 95 0 [some (.inl x)] S σ = je X 95 1 [some (.inl x)] (.inl x :: S) σ := je_iload (show jm_fe 95 0 = some (jk_iload 0 1) from rfl) rfl
theorem r_Function_isOperation_1 : je X 95 1 L (.inl p :: S) σ = if p < 0 then je X 95 14 L S σ else je X 95 4 L S σ := je_if_lt (show jm_fe 95 1 = some (jk_if .lt 14) from rfl)
theorem r_Function_isOperation_4 : je X 95 4 [some (.inl x)] S σ = je X 95 5 [some (.inl x)] (.inl x :: S) σ := je_iload (show jm_fe 95 4 = some (jk_iload 0 1) from rfl) rfl
theorem r_Function_isOperation_5 : je X 95 5 L S σ = je X 95 7 L (.inl 28 :: S) σ := je_const (show jm_fe 95 5 = some (jk_const (28) 2) from rfl)
theorem r_Function_isOperation_7 : je X 95 7 L (.inl q :: .inl p :: S) σ = if q < p then je X 95 14 L S σ else je X 95 10 L S σ := je_icmp_gt (show jm_fe 95 7 = some (jk_icmp .gt 14) from rfl)
theorem r_Function_isOperation_10 : je X 95 10 L S σ = je X 95 11 L (.inl 1 :: S) σ := je_const (show jm_fe 95 10 = some (jk_const 1 1) from rfl)
theorem r_Function_isOperation_11 : je X 95 11 L S σ = je X 95 15 L S σ := je_goto (show jm_fe 95 11 = some (jk_goto 15) from rfl)
theorem r_Function_isOperation_14 : je X 95 14 L S σ = je X 95 15 L (.inl 0 :: S) σ := je_const (show jm_fe 95 14 = some (jk_const 0 1) from rfl)
theorem r_Function_isOperation_15 (hx : p = 0 ∨ p = 1) : je X 95 15 L [.inl p] σ = some (some (.inl p), σ) := je_zret (show jm_fe 95 15 = some (jk_zret) from rfl) hx
theorem r_Function_isPlace_0 : je X 96 0 [some (.inl x)] S σ = je X 96 1 [some (.inl x)] (.inl x :: S) σ := je_iload (show jm_fe 96 0 = some (jk_iload 0 1) from rfl) rfl
theorem r_Function_isPlace_1 : je X 96 1 L (.inl p :: S) σ = if p < 0 then je X 96 14 L S σ else je X 96 4 L S σ := je_if_lt (show jm_fe 96 1 = some (jk_if .lt 14) from rfl)
theorem r_Function_isPlace_4 : je X 96 4 [some (.inl x)] S σ = je X 96 5 [some (.inl x)] (.inl x :: S) σ := je_iload (show jm_fe 96 4 = some (jk_iload 0 1) from rfl) rfl
theorem r_Function_isPlace_5 : je X 96 5 L S σ = je X 96 7 L (.inl 100 :: S) σ := je_const (show jm_fe 96 5 = some (jk_const (100) 2) from rfl)
theorem r_Function_isPlace_7 : je X 96 7 L (.inl q :: .inl p :: S) σ = if q < p then je X 96 14 L S σ else je X 96 10 L S σ := je_icmp_gt (show jm_fe 96 7 = some (jk_icmp .gt 14) from rfl)
theorem r_Function_isPlace_10 : je X 96 10 L S σ = je X 96 11 L (.inl 1 :: S) σ := je_const (show jm_fe 96 10 = some (jk_const 1 1) from rfl)
theorem r_Function_isPlace_11 : je X 96 11 L S σ = je X 96 15 L S σ := je_goto (show jm_fe 96 11 = some (jk_goto 15) from rfl)
theorem r_Function_isPlace_14 : je X 96 14 L S σ = je X 96 15 L (.inl 0 :: S) σ := je_const (show jm_fe 96 14 = some (jk_const 0 1) from rfl)
theorem r_Function_isPlace_15 (hx : p = 0 ∨ p = 1) : je X 96 15 L [.inl p] σ = some (some (.inl p), σ) := je_zret (show jm_fe 96 15 = some (jk_zret) from rfl) hx
theorem r_Outside_empty_0 : je X 98 0 [some (.inr r)] S σ = je X 98 1 [some (.inr r)] (.inr r :: S) σ := je_aload (show jm_fe 98 0 = some (jk_aload 0 1) from rfl) rfl
theorem r_Outside_empty_1 : je X 98 1 L S σ = je X 98 2 L (.inl 0 :: S) σ := je_const (show jm_fe 98 1 = some (jk_const 0 1) from rfl)
theorem r_Outside_empty_2 : je X 98 2 L (v :: .inr (.inl (some a)) :: S) σ = je_h X 98 5 L S σ.2 (jm_pf σ.1 a 8 1 0 v) := je_putf (show jm_fe 98 2 = some (jk_putf 8 1 0) from rfl)
theorem r_Outside_empty_5 : je X 98 5 L [] σ = some (none, σ) := je_ret (show jm_fe 98 5 = some (jk_ret) from rfl)
theorem r_Outside_note_0 : je X 99 0 [some (.inr r), l1, l2, l3, l4, l5, l6] S σ = je X 99 1 [some (.inr r), l1, l2, l3, l4, l5, l6] (.inr r :: S) σ := je_aload (show jm_fe 99 0 = some (jk_aload 0 1) from rfl) rfl
theorem r_Outside_note_1 : je X 99 1 L (.inr (.inl (some a)) :: S) σ = je_v X 99 4 L S σ (jm_gf σ.1 a 8 1) := je_getf (show jm_fe 99 1 = some (jk_getf 8 1) from rfl)
theorem r_Outside_note_4 : je X 99 4 L (.inl p :: S) σ = if p < 0 then je X 99 88 L S σ else je X 99 7 L S σ := je_if_lt (show jm_fe 99 4 = some (jk_if .lt 88) from rfl)
theorem r_Outside_note_7 : je X 99 7 [some (.inr r), l1, l2, l3, l4, l5, l6] S σ = je X 99 8 [some (.inr r), l1, l2, l3, l4, l5, l6] (.inr r :: S) σ := je_aload (show jm_fe 99 7 = some (jk_aload 0 1) from rfl) rfl
theorem r_Outside_note_8 : je X 99 8 L (.inr (.inl (some a)) :: S) σ = je_v X 99 11 L S σ (jm_gf σ.1 a 8 1) := je_getf (show jm_fe 99 8 = some (jk_getf 8 1) from rfl)
theorem r_Outside_note_11 : je X 99 11 L S σ = je X 99 13 L (.inl 64 :: S) σ := je_const (show jm_fe 99 11 = some (jk_const (64) 2) from rfl)
theorem r_Outside_note_13 : je X 99 13 L (.inl q :: .inl p :: S) σ = if q ≤ p then je X 99 88 L S σ else je X 99 16 L S σ := je_icmp_ge (show jm_fe 99 13 = some (jk_icmp .ge 88) from rfl)
theorem r_Outside_note_16 : je X 99 16 [some (.inr r), l1, l2, l3, l4, l5, l6] S σ = je X 99 17 [some (.inr r), l1, l2, l3, l4, l5, l6] (.inr r :: S) σ := je_aload (show jm_fe 99 16 = some (jk_aload 0 1) from rfl) rfl
theorem r_Outside_note_17 : je X 99 17 L (.inr (.inl (some a)) :: S) σ = je_v X 99 20 L S σ (jm_gf σ.1 a 8 1) := je_getf (show jm_fe 99 17 = some (jk_getf 8 1) from rfl)
theorem r_Outside_note_20 : je X 99 20 L S σ = je X 99 21 L (.inl 5 :: S) σ := je_const (show jm_fe 99 20 = some (jk_const 5 1) from rfl)
theorem r_Outside_note_21 : je X 99 21 L (.inl q :: .inl p :: S) σ = je X 99 22 L (.inl (p * q) :: S) σ := je_bin (show jm_fe 99 21 = some (jb_imul) from rfl)
theorem r_Outside_note_22 : je X 99 22 [l0, l1, l2, l3, l4, l5, l6] (.inl x :: S) σ = je X 99 24 [l0, l1, l2, l3, l4, some (.inl x), l6] S σ := je_istore (show jm_fe 99 22 = some (jk_istore 5 2) from rfl) (Nat.le_of_ble_eq_true rfl)
theorem r_Outside_note_24 : je X 99 24 [some (.inr r), l1, l2, l3, l4, l5, l6] S σ = je X 99 25 [some (.inr r), l1, l2, l3, l4, l5, l6] (.inr r :: S) σ := je_aload (show jm_fe 99 24 = some (jk_aload 0 1) from rfl) rfl
theorem r_Outside_note_25 : je X 99 25 L (.inr (.inl (some a)) :: S) σ = je_v X 99 28 L S σ (jm_gf σ.1 a 8 0) := je_getf (show jm_fe 99 25 = some (jk_getf 8 0) from rfl)
theorem r_Outside_note_28 : je X 99 28 [l0, l1, l2, l3, l4, some (.inl x), l6] S σ = je X 99 30 [l0, l1, l2, l3, l4, some (.inl x), l6] (.inl x :: S) σ := je_iload (show jm_fe 99 28 = some (jk_iload 5 2) from rfl) rfl
theorem r_Outside_note_30 : je X 99 30 [l0, some (.inl x), l2, l3, l4, l5, l6] S σ = je X 99 31 [l0, some (.inl x), l2, l3, l4, l5, l6] (.inl x :: S) σ := je_iload (show jm_fe 99 30 = some (jk_iload 1 1) from rfl) rfl
theorem r_Outside_note_31 : je X 99 31 L (.inl q :: .inl p :: .inr (.inl (some a)) :: S) σ = je_h X 99 32 L S σ.2 (jm_as σ.1 a 0 p q) := je_iast (show jm_fe 99 31 = some (jk_iast) from rfl)
theorem r_Outside_note_32 : je X 99 32 L S σ = je X 99 33 L (.inl 1 :: S) σ := je_const (show jm_fe 99 32 = some (jk_const 1 1) from rfl)
theorem r_Outside_note_33 : je X 99 33 [l0, l1, l2, l3, l4, l5, l6] (.inl x :: S) σ = je X 99 35 [l0, l1, l2, l3, l4, l5, some (.inl x)] S σ := je_istore (show jm_fe 99 33 = some (jk_istore 6 2) from rfl) (Nat.le_of_ble_eq_true rfl)
theorem r_Outside_note_35 : je X 99 35 [l0, l1, l2, l3, l4, l5, some (.inl x)] S σ = je X 99 37 [l0, l1, l2, l3, l4, l5, some (.inl x)] (.inl x :: S) σ := je_iload (show jm_fe 99 35 = some (jk_iload 6 2) from rfl) rfl
theorem r_Outside_note_37 : je X 99 37 L S σ = je X 99 38 L (.inl 3 :: S) σ := je_const (show jm_fe 99 37 = some (jk_const 3 1) from rfl)
theorem r_Outside_note_38 : je X 99 38 L (.inl q :: .inl p :: S) σ = if q < p then je X 99 75 L S σ else je X 99 41 L S σ := je_icmp_gt (show jm_fe 99 38 = some (jk_icmp .gt 75) from rfl)
theorem r_Outside_note_41 : je X 99 41 [some (.inr r), l1, l2, l3, l4, l5, l6] S σ = je X 99 42 [some (.inr r), l1, l2, l3, l4, l5, l6] (.inr r :: S) σ := je_aload (show jm_fe 99 41 = some (jk_aload 0 1) from rfl) rfl
theorem r_Outside_note_42 : je X 99 42 L (.inr (.inl (some a)) :: S) σ = je_v X 99 45 L S σ (jm_gf σ.1 a 8 0) := je_getf (show jm_fe 99 42 = some (jk_getf 8 0) from rfl)
theorem r_Outside_note_45 : je X 99 45 [l0, l1, l2, l3, l4, some (.inl x), l6] S σ = je X 99 47 [l0, l1, l2, l3, l4, some (.inl x), l6] (.inl x :: S) σ := je_iload (show jm_fe 99 45 = some (jk_iload 5 2) from rfl) rfl
theorem r_Outside_note_47 : je X 99 47 [l0, l1, l2, l3, l4, l5, some (.inl x)] S σ = je X 99 49 [l0, l1, l2, l3, l4, l5, some (.inl x)] (.inl x :: S) σ := je_iload (show jm_fe 99 47 = some (jk_iload 6 2) from rfl) rfl
theorem r_Outside_note_49 : je X 99 49 L (.inl q :: .inl p :: S) σ = je X 99 50 L (.inl (p + q) :: S) σ := je_bin (show jm_fe 99 49 = some (jb_iadd) from rfl)
theorem r_Outside_note_50 : je X 99 50 [l0, l1, l2, l3, l4, l5, some (.inl x)] S σ = je X 99 52 [l0, l1, l2, l3, l4, l5, some (.inl x)] (.inl x :: S) σ := je_iload (show jm_fe 99 50 = some (jk_iload 6 2) from rfl) rfl
theorem r_Outside_note_52 : je X 99 52 [l0, l1, l2, some (.inl x), l4, l5, l6] S σ = je X 99 53 [l0, l1, l2, some (.inl x), l4, l5, l6] (.inl x :: S) σ := je_iload (show jm_fe 99 52 = some (jk_iload 3 1) from rfl) rfl
theorem r_Outside_note_53 : je X 99 53 L (.inl q :: .inl p :: S) σ = if q < p then je X 99 67 L S σ else je X 99 56 L S σ := je_icmp_gt (show jm_fe 99 53 = some (jk_icmp .gt 67) from rfl)
theorem r_Outside_note_56 : je X 99 56 [l0, l1, some (.inr r), l3, l4, l5, l6] S σ = je X 99 57 [l0, l1, some (.inr r), l3, l4, l5, l6] (.inr r :: S) σ := je_aload (show jm_fe 99 56 = some (jk_aload 2 1) from rfl) rfl
theorem r_Outside_note_57 : je X 99 57 [l0, l1, l2, some (.inl x), l4, l5, l6] S σ = je X 99 58 [l0, l1, l2, some (.inl x), l4, l5, l6] (.inl x :: S) σ := je_iload (show jm_fe 99 57 = some (jk_iload 3 1) from rfl) rfl
set_option maxRecDepth 20000 in
theorem r_Outside_note_58 : je X 99 58 [l0, l1, l2, l3, l4, l5, some (.inl x)] S σ = je X 99 60 [l0, l1, l2, l3, l4, l5, some (.inl x)] (.inl x :: S) σ := je_iload (show jm_fe 99 58 = some (jk_iload 6 2) from rfl) rfl
set_option maxRecDepth 20000 in
theorem r_Outside_note_60 : je X 99 60 L (.inl q :: .inl p :: S) σ = je X 99 61 L (.inl (p - q) :: S) σ := je_bin (show jm_fe 99 60 = some (jb_isub) from rfl)
set_option maxRecDepth 20000 in
theorem r_Outside_note_61 (hc : jm_cl σ.1 a = some 6) (h8 : S.length ≤ 8) : je X 99 61 L (v0 :: .inr (.inl (some a)) :: S) σ = je_c X 99 64 L S (je X 73 0 [some (.inr (.inl (some a))), some v0] [] σ) := je_callV (as := [v0]) (S' := S) (show jm_fe 99 61 = some (jk_callV 73 1 6) from rfl) rfl hc h8
set_option maxRecDepth 20000 in
theorem r_Outside_note_64 : je X 99 64 L S σ = je X 99 68 L S σ := je_goto (show jm_fe 99 64 = some (jk_goto 68) from rfl)
set_option maxRecDepth 20000 in
theorem r_Outside_note_67 : je X 99 67 L S σ = je X 99 68 L (.inl 0 :: S) σ := je_const (show jm_fe 99 67 = some (jk_const 0 1) from rfl)
set_option maxRecDepth 20000 in
theorem r_Outside_note_68 : je X 99 68 L (.inl q :: .inl p :: .inr (.inl (some a)) :: S) σ = je_h X 99 69 L S σ.2 (jm_as σ.1 a 0 p q) := je_iast (show jm_fe 99 68 = some (jk_iast) from rfl)
set_option maxRecDepth 20000 in
theorem r_Outside_note_69 : je X 99 69 [l0, l1, l2, l3, l4, l5, some (.inl x)] S σ = je X 99 72 [l0, l1, l2, l3, l4, l5, some (.inl (x + (1)))] S σ := je_iinc (show jm_fe 99 69 = some (jk_iinc 6 (1)) from rfl) rfl
set_option maxRecDepth 20000 in
theorem r_Outside_note_72 : je X 99 72 L S σ = je X 99 35 L S σ := je_goto (show jm_fe 99 72 = some (jk_goto 35) from rfl)
set_option maxRecDepth 20000 in
theorem r_Outside_note_75 : je X 99 75 [some (.inr r), l1, l2, l3, l4, l5, l6] S σ = je X 99 76 [some (.inr r), l1, l2, l3, l4, l5, l6] (.inr r :: S) σ := je_aload (show jm_fe 99 75 = some (jk_aload 0 1) from rfl) rfl
set_option maxRecDepth 20000 in
theorem r_Outside_note_76 : je X 99 76 L (.inr (.inl (some a)) :: S) σ = je_v X 99 79 L S σ (jm_gf σ.1 a 8 0) := je_getf (show jm_fe 99 76 = some (jk_getf 8 0) from rfl)
set_option maxRecDepth 20000 in
theorem r_Outside_note_79 : je X 99 79 [l0, l1, l2, l3, l4, some (.inl x), l6] S σ = je X 99 81 [l0, l1, l2, l3, l4, some (.inl x), l6] (.inl x :: S) σ := je_iload (show jm_fe 99 79 = some (jk_iload 5 2) from rfl) rfl
set_option maxRecDepth 20000 in
theorem r_Outside_note_81 : je X 99 81 L S σ = je X 99 82 L (.inl 5 :: S) σ := je_const (show jm_fe 99 81 = some (jk_const 5 1) from rfl)
set_option maxRecDepth 20000 in
theorem r_Outside_note_82 : je X 99 82 L (.inl q :: .inl p :: S) σ = je X 99 83 L (.inl (p + q) :: S) σ := je_bin (show jm_fe 99 82 = some (jb_iadd) from rfl)
set_option maxRecDepth 20000 in
theorem r_Outside_note_83 : je X 99 83 L S σ = je X 99 84 L (.inl 1 :: S) σ := je_const (show jm_fe 99 83 = some (jk_const 1 1) from rfl)
set_option maxRecDepth 20000 in
theorem r_Outside_note_84 : je X 99 84 L (.inl q :: .inl p :: S) σ = je X 99 85 L (.inl (p - q) :: S) σ := je_bin (show jm_fe 99 84 = some (jb_isub) from rfl)
set_option maxRecDepth 20000 in
theorem r_Outside_note_85 : je X 99 85 [l0, l1, l2, l3, some (.inl x), l5, l6] S σ = je X 99 87 [l0, l1, l2, l3, some (.inl x), l5, l6] (.inl x :: S) σ := je_iload (show jm_fe 99 85 = some (jk_iload 4 2) from rfl) rfl
set_option maxRecDepth 20000 in
theorem r_Outside_note_87 : je X 99 87 L (.inl q :: .inl p :: .inr (.inl (some a)) :: S) σ = je_h X 99 88 L S σ.2 (jm_as σ.1 a 0 p q) := je_iast (show jm_fe 99 87 = some (jk_iast) from rfl)
set_option maxRecDepth 20000 in
theorem r_Outside_note_88 : je X 99 88 [some (.inr r), l1, l2, l3, l4, l5, l6] S σ = je X 99 89 [some (.inr r), l1, l2, l3, l4, l5, l6] (.inr r :: S) σ := je_aload (show jm_fe 99 88 = some (jk_aload 0 1) from rfl) rfl
set_option maxRecDepth 20000 in
theorem r_Outside_note_89 : je X 99 89 L (v :: S) σ = je X 99 90 L (v :: v :: S) σ := je_dup (show jm_fe 99 89 = some (jk_dup) from rfl)
set_option maxRecDepth 20000 in
theorem r_Outside_note_90 : je X 99 90 L (.inr (.inl (some a)) :: S) σ = je_v X 99 93 L S σ (jm_gf σ.1 a 8 1) := je_getf (show jm_fe 99 90 = some (jk_getf 8 1) from rfl)
set_option maxRecDepth 20000 in
theorem r_Outside_note_93 : je X 99 93 L S σ = je X 99 94 L (.inl 1 :: S) σ := je_const (show jm_fe 99 93 = some (jk_const 1 1) from rfl)
set_option maxRecDepth 20000 in
theorem r_Outside_note_94 : je X 99 94 L (.inl q :: .inl p :: S) σ = je X 99 95 L (.inl (p + q) :: S) σ := je_bin (show jm_fe 99 94 = some (jb_iadd) from rfl)
set_option maxRecDepth 20000 in
theorem r_Outside_note_95 : je X 99 95 L (v :: .inr (.inl (some a)) :: S) σ = je_h X 99 98 L S σ.2 (jm_pf σ.1 a 8 1 0 v) := je_putf (show jm_fe 99 95 = some (jk_putf 8 1 0) from rfl)
set_option maxRecDepth 20000 in
theorem r_Outside_note_98 : je X 99 98 L [] σ = some (none, σ) := je_ret (show jm_fe 99 98 = some (jk_ret) from rfl)
end JR
