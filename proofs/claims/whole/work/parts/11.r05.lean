section JR
variable {X : jm_X} {L : jm_L} {S : List jm_V} {σ : jm_S} {l0 l1 l2 l3 l4 l5 l6 l7 : Option jm_V} {x p q : Int32} {a : Nat} {r : Option Nat ⊕ Unit} {o : Option Nat} {u : Unit} {v w v0 v1 v2 v3 v4 v5 : jm_V}
theorem r_Outside_at_0 : je X 100 0 [l0, some (.inl x), l2, l3] S σ = je X 100 1 [l0, some (.inl x), l2, l3] (.inl x :: S) σ := je_iload (show jm_fe 100 0 = some (jk_iload 1 1) from rfl) rfl
theorem r_Outside_at_1 : je X 100 1 L (.inl p :: S) σ = if p < 0 then je X 100 22 L S σ else je X 100 4 L S σ := je_if_lt (show jm_fe 100 1 = some (jk_if .lt 22) from rfl)
theorem r_Outside_at_4 : je X 100 4 [l0, some (.inl x), l2, l3] S σ = je X 100 5 [l0, some (.inl x), l2, l3] (.inl x :: S) σ := je_iload (show jm_fe 100 4 = some (jk_iload 1 1) from rfl) rfl
theorem r_Outside_at_5 : je X 100 5 [some (.inr r), l1, l2, l3] S σ = je X 100 6 [some (.inr r), l1, l2, l3] (.inr r :: S) σ := je_aload (show jm_fe 100 5 = some (jk_aload 0 1) from rfl) rfl
theorem r_Outside_at_6 : je X 100 6 L (.inr (.inl (some a)) :: S) σ = je_v X 100 9 L S σ (jm_gf σ.1 a 8 1) := je_getf (show jm_fe 100 6 = some (jk_getf 8 1) from rfl)
theorem r_Outside_at_9 : je X 100 9 L (.inl q :: .inl p :: S) σ = if q ≤ p then je X 100 22 L S σ else je X 100 12 L S σ := je_icmp_ge (show jm_fe 100 9 = some (jk_icmp .ge 22) from rfl)
theorem r_Outside_at_12 : je X 100 12 [l0, some (.inl x), l2, l3] S σ = je X 100 13 [l0, some (.inl x), l2, l3] (.inl x :: S) σ := je_iload (show jm_fe 100 12 = some (jk_iload 1 1) from rfl) rfl
theorem r_Outside_at_13 : je X 100 13 L S σ = je X 100 15 L (.inl 64 :: S) σ := je_const (show jm_fe 100 13 = some (jk_const (64) 2) from rfl)
theorem r_Outside_at_15 : je X 100 15 L (.inl q :: .inl p :: S) σ = if q ≤ p then je X 100 22 L S σ else je X 100 18 L S σ := je_icmp_ge (show jm_fe 100 15 = some (jk_icmp .ge 22) from rfl)
theorem r_Outside_at_18 : je X 100 18 L S σ = je X 100 19 L (.inl 1 :: S) σ := je_const (show jm_fe 100 18 = some (jk_const 1 1) from rfl)
theorem r_Outside_at_19 : je X 100 19 L S σ = je X 100 23 L S σ := je_goto (show jm_fe 100 19 = some (jk_goto 23) from rfl)
theorem r_Outside_at_22 : je X 100 22 L S σ = je X 100 23 L (.inl 0 :: S) σ := je_const (show jm_fe 100 22 = some (jk_const 0 1) from rfl)
theorem r_Outside_at_23 : je X 100 23 [l0, l1, l2, l3] (.inl x :: S) σ = je X 100 24 [l0, l1, l2, some (.inl x)] S σ := je_istore (show jm_fe 100 23 = some (jk_istore 3 1) from rfl) (Nat.le_of_ble_eq_true rfl)
theorem r_Outside_at_24 : je X 100 24 [l0, l1, l2, some (.inl x)] S σ = je X 100 25 [l0, l1, l2, some (.inl x)] (.inl x :: S) σ := je_iload (show jm_fe 100 24 = some (jk_iload 3 1) from rfl) rfl
theorem r_Outside_at_25 : je X 100 25 L (.inl p :: S) σ = if p = 0 then je X 100 50 L S σ else je X 100 28 L S σ := je_if_eq (show jm_fe 100 25 = some (jk_if .eq 50) from rfl)
theorem r_Outside_at_28 : je X 100 28 [l0, l1, some (.inl x), l3] S σ = je X 100 29 [l0, l1, some (.inl x), l3] (.inl x :: S) σ := je_iload (show jm_fe 100 28 = some (jk_iload 2 1) from rfl) rfl
theorem r_Outside_at_29 : je X 100 29 L (.inl p :: S) σ = if p < 0 then je X 100 50 L S σ else je X 100 32 L S σ := je_if_lt (show jm_fe 100 29 = some (jk_if .lt 50) from rfl)
theorem r_Outside_at_32 : je X 100 32 [l0, l1, some (.inl x), l3] S σ = je X 100 33 [l0, l1, some (.inl x), l3] (.inl x :: S) σ := je_iload (show jm_fe 100 32 = some (jk_iload 2 1) from rfl) rfl
theorem r_Outside_at_33 : je X 100 33 L S σ = je X 100 34 L (.inl 5 :: S) σ := je_const (show jm_fe 100 33 = some (jk_const 5 1) from rfl)
theorem r_Outside_at_34 : je X 100 34 L (.inl q :: .inl p :: S) σ = if q ≤ p then je X 100 50 L S σ else je X 100 37 L S σ := je_icmp_ge (show jm_fe 100 34 = some (jk_icmp .ge 50) from rfl)
theorem r_Outside_at_37 : je X 100 37 [some (.inr r), l1, l2, l3] S σ = je X 100 38 [some (.inr r), l1, l2, l3] (.inr r :: S) σ := je_aload (show jm_fe 100 37 = some (jk_aload 0 1) from rfl) rfl
theorem r_Outside_at_38 : je X 100 38 L (.inr (.inl (some a)) :: S) σ = je_v X 100 41 L S σ (jm_gf σ.1 a 8 0) := je_getf (show jm_fe 100 38 = some (jk_getf 8 0) from rfl)
theorem r_Outside_at_41 : je X 100 41 [l0, some (.inl x), l2, l3] S σ = je X 100 42 [l0, some (.inl x), l2, l3] (.inl x :: S) σ := je_iload (show jm_fe 100 41 = some (jk_iload 1 1) from rfl) rfl
theorem r_Outside_at_42 : je X 100 42 L S σ = je X 100 43 L (.inl 5 :: S) σ := je_const (show jm_fe 100 42 = some (jk_const 5 1) from rfl)
theorem r_Outside_at_43 : je X 100 43 L (.inl q :: .inl p :: S) σ = je X 100 44 L (.inl (p * q) :: S) σ := je_bin (show jm_fe 100 43 = some (jb_imul) from rfl)
theorem r_Outside_at_44 : je X 100 44 [l0, l1, some (.inl x), l3] S σ = je X 100 45 [l0, l1, some (.inl x), l3] (.inl x :: S) σ := je_iload (show jm_fe 100 44 = some (jk_iload 2 1) from rfl) rfl
theorem r_Outside_at_45 : je X 100 45 L (.inl q :: .inl p :: S) σ = je X 100 46 L (.inl (p + q) :: S) σ := je_bin (show jm_fe 100 45 = some (jb_iadd) from rfl)
theorem r_Outside_at_46 : je X 100 46 L (.inl p :: .inr (.inl (some a)) :: S) σ = je_i X 100 47 L S σ (jm_al σ.1 a 0 p) := je_ald (show jm_fe 100 46 = some (jk_ald 0) from rfl)
theorem r_Outside_at_47 : je X 100 47 L S σ = je X 100 51 L S σ := je_goto (show jm_fe 100 47 = some (jk_goto 51) from rfl)
theorem r_Outside_at_50 : je X 100 50 L S σ = je X 100 51 L (.inl 0 :: S) σ := je_const (show jm_fe 100 50 = some (jk_const 0 1) from rfl)
theorem r_Outside_at_51 : je X 100 51 L [.inl p] σ = some (some (.inl p), σ) := je_iret (show jm_fe 100 51 = some (jk_iret) from rfl)
theorem r_Program_empty_0 : je X 102 0 [some (.inr r)] S σ = je X 102 1 [some (.inr r)] (.inr r :: S) σ := je_aload (show jm_fe 102 0 = some (jk_aload 0 1) from rfl) rfl
theorem r_Program_empty_1 : je X 102 1 L S σ = je X 102 2 L (.inl 0 :: S) σ := je_const (show jm_fe 102 1 = some (jk_const 0 1) from rfl)
theorem r_Program_empty_2 : je X 102 2 L (v :: .inr (.inl (some a)) :: S) σ = je_h X 102 5 L S σ.2 (jm_pf σ.1 a 1 1 0 v) := je_putf (show jm_fe 102 2 = some (jk_putf 1 1 0) from rfl)
theorem r_Program_empty_5 : je X 102 5 L [] σ = some (none, σ) := je_ret (show jm_fe 102 5 = some (jk_ret) from rfl)
theorem r_Program_open_0 : je X 103 0 [some (.inr r), l1, l2, l3] S σ = je X 103 1 [some (.inr r), l1, l2, l3] (.inr r :: S) σ := je_aload (show jm_fe 103 0 = some (jk_aload 0 1) from rfl) rfl
theorem r_Program_open_1 : je X 103 1 L (.inr (.inl (some a)) :: S) σ = je_v X 103 4 L S σ (jm_gf σ.1 a 1 1) := je_getf (show jm_fe 103 1 = some (jk_getf 1 1) from rfl)
theorem r_Program_open_4 : je X 103 4 L S σ = je X 103 6 L (.inl 8 :: S) σ := je_const (show jm_fe 103 4 = some (jk_const (8) 2) from rfl)
theorem r_Program_open_6 : je X 103 6 L (.inl q :: .inl p :: S) σ = if q ≤ p then je X 103 18 L S σ else je X 103 9 L S σ := je_icmp_ge (show jm_fe 103 6 = some (jk_icmp .ge 18) from rfl)
theorem r_Program_open_9 : je X 103 9 [l0, some (.inl x), l2, l3] S σ = je X 103 10 [l0, some (.inl x), l2, l3] (.inl x :: S) σ := je_iload (show jm_fe 103 9 = some (jk_iload 1 1) from rfl) rfl
theorem r_Program_open_10 : je X 103 10 [l0, l1, some (.inl x), l3] S σ = je X 103 11 [l0, l1, some (.inl x), l3] (.inl x :: S) σ := je_iload (show jm_fe 103 10 = some (jk_iload 2 1) from rfl) rfl
theorem r_Program_open_11 : je X 103 11 [l0, l1, l2, some (.inl x)] S σ = je X 103 12 [l0, l1, l2, some (.inl x)] (.inl x :: S) σ := je_iload (show jm_fe 103 11 = some (jk_iload 3 1) from rfl) rfl
theorem r_Program_open_12 (h8 : S.length ≤ 8) : je X 103 12 L (v2 :: v1 :: v0 :: S) σ = je_c X 103 15 L S (je X 87 0 [some v0, some v1, some v2] [] σ) := je_callS (as := [v0, v1, v2]) (S' := S) (show jm_fe 103 12 = some (jk_callS 87 3) from rfl) rfl h8
theorem r_Program_open_15 : je X 103 15 L (.inl p :: S) σ = if p = 0 then je X 103 18 L S σ else je X 103 20 L S σ := je_if_ne (show jm_fe 103 15 = some (jk_if .ne 20) from rfl)
theorem r_Program_open_18 : je X 103 18 L S σ = je X 103 19 L (.inl (-1) :: S) σ := je_const (show jm_fe 103 18 = some (jk_const (-1) 1) from rfl)
theorem r_Program_open_19 : je X 103 19 L [.inl p] σ = some (some (.inl p), σ) := je_iret (show jm_fe 103 19 = some (jk_iret) from rfl)
theorem r_Program_open_20 : je X 103 20 [some (.inr r), l1, l2, l3] S σ = je X 103 21 [some (.inr r), l1, l2, l3] (.inr r :: S) σ := je_aload (show jm_fe 103 20 = some (jk_aload 0 1) from rfl) rfl
theorem r_Program_open_21 : je X 103 21 L (.inr (.inl (some a)) :: S) σ = je_v X 103 24 L S σ (jm_gf σ.1 a 1 0) := je_getf (show jm_fe 103 21 = some (jk_getf 1 0) from rfl)
theorem r_Program_open_24 : je X 103 24 [some (.inr r), l1, l2, l3] S σ = je X 103 25 [some (.inr r), l1, l2, l3] (.inr r :: S) σ := je_aload (show jm_fe 103 24 = some (jk_aload 0 1) from rfl) rfl
theorem r_Program_open_25 : je X 103 25 L (.inr (.inl (some a)) :: S) σ = je_v X 103 28 L S σ (jm_gf σ.1 a 1 1) := je_getf (show jm_fe 103 25 = some (jk_getf 1 1) from rfl)
theorem r_Program_open_28 : je X 103 28 L (.inl p :: .inr (.inl (some a)) :: S) σ = je_r X 103 29 L S σ (jm_ar σ.1 a 2 p) := je_aald (show jm_fe 103 28 = some (jk_aald 2) from rfl)
theorem r_Program_open_29 : je X 103 29 [l0, some (.inl x), l2, l3] S σ = je X 103 30 [l0, some (.inl x), l2, l3] (.inl x :: S) σ := je_iload (show jm_fe 103 29 = some (jk_iload 1 1) from rfl) rfl
theorem r_Program_open_30 : je X 103 30 [l0, l1, some (.inl x), l3] S σ = je X 103 31 [l0, l1, some (.inl x), l3] (.inl x :: S) σ := je_iload (show jm_fe 103 30 = some (jk_iload 2 1) from rfl) rfl
theorem r_Program_open_31 : je X 103 31 [l0, l1, l2, some (.inl x)] S σ = je X 103 32 [l0, l1, l2, some (.inl x)] (.inl x :: S) σ := je_iload (show jm_fe 103 31 = some (jk_iload 3 1) from rfl) rfl
theorem r_Program_open_32 (hc : jm_cl σ.1 a = some 2) (h8 : S.length ≤ 8) : je X 103 32 L (v2 :: v1 :: v0 :: .inr (.inl (some a)) :: S) σ = je_c X 103 35 L S (je X 88 0 [some (.inr (.inl (some a))), some v0, some v1, some v2] [] σ) := je_callV (as := [v0, v1, v2]) (S' := S) (show jm_fe 103 32 = some (jk_callV 88 3 2) from rfl) rfl hc h8
theorem r_Program_open_35 : je X 103 35 [some (.inr r), l1, l2, l3] S σ = je X 103 36 [some (.inr r), l1, l2, l3] (.inr r :: S) σ := je_aload (show jm_fe 103 35 = some (jk_aload 0 1) from rfl) rfl
theorem r_Program_open_36 : je X 103 36 L (v :: S) σ = je X 103 37 L (v :: v :: S) σ := je_dup (show jm_fe 103 36 = some (jk_dup) from rfl)
theorem r_Program_open_37 : je X 103 37 L (.inr (.inl (some a)) :: S) σ = je_v X 103 40 L S σ (jm_gf σ.1 a 1 1) := je_getf (show jm_fe 103 37 = some (jk_getf 1 1) from rfl)
theorem r_Program_open_40 : je X 103 40 L S σ = je X 103 41 L (.inl 1 :: S) σ := je_const (show jm_fe 103 40 = some (jk_const 1 1) from rfl)
theorem r_Program_open_41 : je X 103 41 L (.inl q :: .inl p :: S) σ = je X 103 42 L (.inl (p + q) :: S) σ := je_bin (show jm_fe 103 41 = some (jb_iadd) from rfl)
theorem r_Program_open_42 : je X 103 42 L (v :: .inr (.inl (some a)) :: S) σ = je_h X 103 45 L S σ.2 (jm_pf σ.1 a 1 1 0 v) := je_putf (show jm_fe 103 42 = some (jk_putf 1 1 0) from rfl)
theorem r_Program_open_45 : je X 103 45 [some (.inr r), l1, l2, l3] S σ = je X 103 46 [some (.inr r), l1, l2, l3] (.inr r :: S) σ := je_aload (show jm_fe 103 45 = some (jk_aload 0 1) from rfl) rfl
theorem r_Program_open_46 : je X 103 46 L (.inr (.inl (some a)) :: S) σ = je_v X 103 49 L S σ (jm_gf σ.1 a 1 1) := je_getf (show jm_fe 103 46 = some (jk_getf 1 1) from rfl)
set_option maxRecDepth 20000 in
theorem r_Program_open_49 : je X 103 49 L S σ = je X 103 50 L (.inl 1 :: S) σ := je_const (show jm_fe 103 49 = some (jk_const 1 1) from rfl)
set_option maxRecDepth 20000 in
theorem r_Program_open_50 : je X 103 50 L (.inl q :: .inl p :: S) σ = je X 103 51 L (.inl (p - q) :: S) σ := je_bin (show jm_fe 103 50 = some (jb_isub) from rfl)
set_option maxRecDepth 20000 in
theorem r_Program_open_51 : je X 103 51 L [.inl p] σ = some (some (.inl p), σ) := je_iret (show jm_fe 103 51 = some (jk_iret) from rfl)
theorem r_Program_find_0 : je X 104 0 [l0, some (.inl x)] S σ = je X 104 1 [l0, some (.inl x)] (.inl x :: S) σ := je_iload (show jm_fe 104 0 = some (jk_iload 1 1) from rfl) rfl
theorem r_Program_find_1 : je X 104 1 L (.inl p :: S) σ = if p < 0 then je X 104 21 L S σ else je X 104 4 L S σ := je_if_lt (show jm_fe 104 1 = some (jk_if .lt 21) from rfl)
theorem r_Program_find_4 : je X 104 4 [l0, some (.inl x)] S σ = je X 104 5 [l0, some (.inl x)] (.inl x :: S) σ := je_iload (show jm_fe 104 4 = some (jk_iload 1 1) from rfl) rfl
theorem r_Program_find_5 : je X 104 5 [some (.inr r), l1] S σ = je X 104 6 [some (.inr r), l1] (.inr r :: S) σ := je_aload (show jm_fe 104 5 = some (jk_aload 0 1) from rfl) rfl
theorem r_Program_find_6 : je X 104 6 L (.inr (.inl (some a)) :: S) σ = je_v X 104 9 L S σ (jm_gf σ.1 a 1 1) := je_getf (show jm_fe 104 6 = some (jk_getf 1 1) from rfl)
theorem r_Program_find_9 : je X 104 9 L (.inl q :: .inl p :: S) σ = if q ≤ p then je X 104 21 L S σ else je X 104 12 L S σ := je_icmp_ge (show jm_fe 104 9 = some (jk_icmp .ge 21) from rfl)
theorem r_Program_find_12 : je X 104 12 [some (.inr r), l1] S σ = je X 104 13 [some (.inr r), l1] (.inr r :: S) σ := je_aload (show jm_fe 104 12 = some (jk_aload 0 1) from rfl) rfl
theorem r_Program_find_13 : je X 104 13 L (.inr (.inl (some a)) :: S) σ = je_v X 104 16 L S σ (jm_gf σ.1 a 1 0) := je_getf (show jm_fe 104 13 = some (jk_getf 1 0) from rfl)
theorem r_Program_find_16 : je X 104 16 [l0, some (.inl x)] S σ = je X 104 17 [l0, some (.inl x)] (.inl x :: S) σ := je_iload (show jm_fe 104 16 = some (jk_iload 1 1) from rfl) rfl
theorem r_Program_find_17 : je X 104 17 L (.inl p :: .inr (.inl (some a)) :: S) σ = je_r X 104 18 L S σ (jm_ar σ.1 a 2 p) := je_aald (show jm_fe 104 17 = some (jk_aald 2) from rfl)
theorem r_Program_find_18 : je X 104 18 L S σ = je X 104 22 L S σ := je_goto (show jm_fe 104 18 = some (jk_goto 22) from rfl)
theorem r_Program_find_21 : je X 104 21 L S σ = je X 104 22 L (.inr (.inl none) :: S) σ := je_null (show jm_fe 104 21 = some (jk_null) from rfl)
theorem r_Program_find_22 : je X 104 22 L [.inr (.inl o)] σ = some (some (.inr (.inl o)), σ) := je_aret (show jm_fe 104 22 = some (jk_aret) from rfl)
theorem r_Rows_empty_0 : je X 106 0 [some (.inr r)] S σ = je X 106 1 [some (.inr r)] (.inr r :: S) σ := je_aload (show jm_fe 106 0 = some (jk_aload 0 1) from rfl) rfl
theorem r_Rows_empty_1 : je X 106 1 L S σ = je X 106 2 L (.inl 0 :: S) σ := je_const (show jm_fe 106 1 = some (jk_const 0 1) from rfl)
theorem r_Rows_empty_2 : je X 106 2 L (v :: .inr (.inl (some a)) :: S) σ = je_h X 106 5 L S σ.2 (jm_pf σ.1 a 7 3 0 v) := je_putf (show jm_fe 106 2 = some (jk_putf 7 3 0) from rfl)
theorem r_Rows_empty_5 : je X 106 5 [some (.inr r)] S σ = je X 106 6 [some (.inr r)] (.inr r :: S) σ := je_aload (show jm_fe 106 5 = some (jk_aload 0 1) from rfl) rfl
theorem r_Rows_empty_6 : je X 106 6 L S σ = je X 106 7 L (.inl 0 :: S) σ := je_const (show jm_fe 106 6 = some (jk_const 0 1) from rfl)
theorem r_Rows_empty_7 : je X 106 7 L (v :: .inr (.inl (some a)) :: S) σ = je_h X 106 10 L S σ.2 (jm_pf σ.1 a 7 4 0 v) := je_putf (show jm_fe 106 7 = some (jk_putf 7 4 0) from rfl)
theorem r_Rows_empty_10 : je X 106 10 L [] σ = some (none, σ) := je_ret (show jm_fe 106 10 = some (jk_ret) from rfl)
theorem r_Rows_mayMake_0 : je X 107 0 [l0, some (.inl x)] S σ = je X 107 1 [l0, some (.inl x)] (.inl x :: S) σ := je_iload (show jm_fe 107 0 = some (jk_iload 1 1) from rfl) rfl
theorem r_Rows_mayMake_1 : je X 107 1 L (.inl p :: S) σ = if p < 0 then je X 107 36 L S σ else je X 107 4 L S σ := je_if_lt (show jm_fe 107 1 = some (jk_if .lt 36) from rfl)
theorem r_Rows_mayMake_4 : je X 107 4 [l0, some (.inl x)] S σ = je X 107 5 [l0, some (.inl x)] (.inl x :: S) σ := je_iload (show jm_fe 107 4 = some (jk_iload 1 1) from rfl) rfl
theorem r_Rows_mayMake_5 : je X 107 5 L S σ = je X 107 7 L (.inl 64 :: S) σ := je_const (show jm_fe 107 5 = some (jk_const (64) 2) from rfl)
theorem r_Rows_mayMake_7 : je X 107 7 L (.inl q :: .inl p :: S) σ = if q < p then je X 107 36 L S σ else je X 107 10 L S σ := je_icmp_gt (show jm_fe 107 7 = some (jk_icmp .gt 36) from rfl)
theorem r_Rows_mayMake_10 : je X 107 10 [some (.inr r), l1] S σ = je X 107 11 [some (.inr r), l1] (.inr r :: S) σ := je_aload (show jm_fe 107 10 = some (jk_aload 0 1) from rfl) rfl
theorem r_Rows_mayMake_11 : je X 107 11 L (.inr (.inl (some a)) :: S) σ = je_v X 107 14 L S σ (jm_gf σ.1 a 7 3) := je_getf (show jm_fe 107 11 = some (jk_getf 7 3) from rfl)
theorem r_Rows_mayMake_14 : je X 107 14 L S σ = je X 107 17 L (.inl 500 :: S) σ := je_const (show jm_fe 107 14 = some (jk_const (500) 3) from rfl)
theorem r_Rows_mayMake_17 : je X 107 17 L (.inl q :: .inl p :: S) σ = if q ≤ p then je X 107 36 L S σ else je X 107 20 L S σ := je_icmp_ge (show jm_fe 107 17 = some (jk_icmp .ge 36) from rfl)
theorem r_Rows_mayMake_20 : je X 107 20 [l0, some (.inl x)] S σ = je X 107 21 [l0, some (.inl x)] (.inl x :: S) σ := je_iload (show jm_fe 107 20 = some (jk_iload 1 1) from rfl) rfl
theorem r_Rows_mayMake_21 : je X 107 21 L S σ = je X 107 24 L (.inl 1024 :: S) σ := je_const (show jm_fe 107 21 = some (jk_const (1024) 3) from rfl)
theorem r_Rows_mayMake_24 : je X 107 24 [some (.inr r), l1] S σ = je X 107 25 [some (.inr r), l1] (.inr r :: S) σ := je_aload (show jm_fe 107 24 = some (jk_aload 0 1) from rfl) rfl
theorem r_Rows_mayMake_25 : je X 107 25 L (.inr (.inl (some a)) :: S) σ = je_v X 107 28 L S σ (jm_gf σ.1 a 7 4) := je_getf (show jm_fe 107 25 = some (jk_getf 7 4) from rfl)
theorem r_Rows_mayMake_28 : je X 107 28 L (.inl q :: .inl p :: S) σ = je X 107 29 L (.inl (p - q) :: S) σ := je_bin (show jm_fe 107 28 = some (jb_isub) from rfl)
theorem r_Rows_mayMake_29 : je X 107 29 L (.inl q :: .inl p :: S) σ = if q < p then je X 107 36 L S σ else je X 107 32 L S σ := je_icmp_gt (show jm_fe 107 29 = some (jk_icmp .gt 36) from rfl)
theorem r_Rows_mayMake_32 : je X 107 32 L S σ = je X 107 33 L (.inl 1 :: S) σ := je_const (show jm_fe 107 32 = some (jk_const 1 1) from rfl)
theorem r_Rows_mayMake_33 : je X 107 33 L S σ = je X 107 37 L S σ := je_goto (show jm_fe 107 33 = some (jk_goto 37) from rfl)
theorem r_Rows_mayMake_36 : je X 107 36 L S σ = je X 107 37 L (.inl 0 :: S) σ := je_const (show jm_fe 107 36 = some (jk_const 0 1) from rfl)
theorem r_Rows_mayMake_37 (hx : p = 0 ∨ p = 1) : je X 107 37 L [.inl p] σ = some (some (.inl p), σ) := je_zret (show jm_fe 107 37 = some (jk_zret) from rfl) hx
theorem r_Rows_make_0 : je X 108 0 [some (.inr r), l1, l2] S σ = je X 108 1 [some (.inr r), l1, l2] (.inr r :: S) σ := je_aload (show jm_fe 108 0 = some (jk_aload 0 1) from rfl) rfl
theorem r_Rows_make_1 : je X 108 1 [l0, some (.inl x), l2] S σ = je X 108 2 [l0, some (.inl x), l2] (.inl x :: S) σ := je_iload (show jm_fe 108 1 = some (jk_iload 1 1) from rfl) rfl
theorem r_Rows_make_2 (hc : jm_cl σ.1 a = some 7) (h8 : S.length ≤ 8) : je X 108 2 L (v0 :: .inr (.inl (some a)) :: S) σ = je_c X 108 5 L S (je X 107 0 [some (.inr (.inl (some a))), some v0] [] σ) := je_callV (as := [v0]) (S' := S) (show jm_fe 108 2 = some (jk_callV 107 1 7) from rfl) rfl hc h8
theorem r_Rows_make_5 : je X 108 5 L (.inl p :: S) σ = if p = 0 then je X 108 8 L S σ else je X 108 10 L S σ := je_if_ne (show jm_fe 108 5 = some (jk_if .ne 10) from rfl)
theorem r_Rows_make_8 : je X 108 8 L S σ = je X 108 9 L (.inl (-1) :: S) σ := je_const (show jm_fe 108 8 = some (jk_const (-1) 1) from rfl)
theorem r_Rows_make_9 : je X 108 9 L [.inl p] σ = some (some (.inl p), σ) := je_iret (show jm_fe 108 9 = some (jk_iret) from rfl)
theorem r_Rows_make_10 : je X 108 10 [some (.inr r), l1, l2] S σ = je X 108 11 [some (.inr r), l1, l2] (.inr r :: S) σ := je_aload (show jm_fe 108 10 = some (jk_aload 0 1) from rfl) rfl
theorem r_Rows_make_11 : je X 108 11 L (.inr (.inl (some a)) :: S) σ = je_v X 108 14 L S σ (jm_gf σ.1 a 7 1) := je_getf (show jm_fe 108 11 = some (jk_getf 7 1) from rfl)
theorem r_Rows_make_14 : je X 108 14 [some (.inr r), l1, l2] S σ = je X 108 15 [some (.inr r), l1, l2] (.inr r :: S) σ := je_aload (show jm_fe 108 14 = some (jk_aload 0 1) from rfl) rfl
theorem r_Rows_make_15 : je X 108 15 L (.inr (.inl (some a)) :: S) σ = je_v X 108 18 L S σ (jm_gf σ.1 a 7 3) := je_getf (show jm_fe 108 15 = some (jk_getf 7 3) from rfl)
theorem r_Rows_make_18 : je X 108 18 [some (.inr r), l1, l2] S σ = je X 108 19 [some (.inr r), l1, l2] (.inr r :: S) σ := je_aload (show jm_fe 108 18 = some (jk_aload 0 1) from rfl) rfl
theorem r_Rows_make_19 : je X 108 19 L (.inr (.inl (some a)) :: S) σ = je_v X 108 22 L S σ (jm_gf σ.1 a 7 4) := je_getf (show jm_fe 108 19 = some (jk_getf 7 4) from rfl)
theorem r_Rows_make_22 : je X 108 22 L (.inl q :: .inl p :: .inr (.inl (some a)) :: S) σ = je_h X 108 23 L S σ.2 (jm_as σ.1 a 0 p q) := je_iast (show jm_fe 108 22 = some (jk_iast) from rfl)
theorem r_Rows_make_23 : je X 108 23 [some (.inr r), l1, l2] S σ = je X 108 24 [some (.inr r), l1, l2] (.inr r :: S) σ := je_aload (show jm_fe 108 23 = some (jk_aload 0 1) from rfl) rfl
theorem r_Rows_make_24 : je X 108 24 L (.inr (.inl (some a)) :: S) σ = je_v X 108 27 L S σ (jm_gf σ.1 a 7 2) := je_getf (show jm_fe 108 24 = some (jk_getf 7 2) from rfl)
theorem r_Rows_make_27 : je X 108 27 [some (.inr r), l1, l2] S σ = je X 108 28 [some (.inr r), l1, l2] (.inr r :: S) σ := je_aload (show jm_fe 108 27 = some (jk_aload 0 1) from rfl) rfl
theorem r_Rows_make_28 : je X 108 28 L (.inr (.inl (some a)) :: S) σ = je_v X 108 31 L S σ (jm_gf σ.1 a 7 3) := je_getf (show jm_fe 108 28 = some (jk_getf 7 3) from rfl)
theorem r_Rows_make_31 : je X 108 31 [l0, some (.inl x), l2] S σ = je X 108 32 [l0, some (.inl x), l2] (.inl x :: S) σ := je_iload (show jm_fe 108 31 = some (jk_iload 1 1) from rfl) rfl
theorem r_Rows_make_32 : je X 108 32 L (.inl q :: .inl p :: .inr (.inl (some a)) :: S) σ = je_h X 108 33 L S σ.2 (jm_as σ.1 a 0 p q) := je_iast (show jm_fe 108 32 = some (jk_iast) from rfl)
theorem r_Rows_make_33 : je X 108 33 [some (.inr r), l1, l2] S σ = je X 108 34 [some (.inr r), l1, l2] (.inr r :: S) σ := je_aload (show jm_fe 108 33 = some (jk_aload 0 1) from rfl) rfl
theorem r_Rows_make_34 : je X 108 34 L (.inr (.inl (some a)) :: S) σ = je_v X 108 37 L S σ (jm_gf σ.1 a 7 4) := je_getf (show jm_fe 108 34 = some (jk_getf 7 4) from rfl)
theorem r_Rows_make_37 : je X 108 37 [l0, l1, l2] (.inl x :: S) σ = je X 108 38 [l0, l1, some (.inl x)] S σ := je_istore (show jm_fe 108 37 = some (jk_istore 2 1) from rfl) (Nat.le_of_ble_eq_true rfl)
theorem r_Rows_make_38 : je X 108 38 [l0, l1, some (.inl x)] S σ = je X 108 39 [l0, l1, some (.inl x)] (.inl x :: S) σ := je_iload (show jm_fe 108 38 = some (jk_iload 2 1) from rfl) rfl
set_option maxRecDepth 20000 in
theorem r_Rows_make_39 : je X 108 39 [some (.inr r), l1, l2] S σ = je X 108 40 [some (.inr r), l1, l2] (.inr r :: S) σ := je_aload (show jm_fe 108 39 = some (jk_aload 0 1) from rfl) rfl
set_option maxRecDepth 20000 in
theorem r_Rows_make_40 : je X 108 40 L (.inr (.inl (some a)) :: S) σ = je_v X 108 43 L S σ (jm_gf σ.1 a 7 4) := je_getf (show jm_fe 108 40 = some (jk_getf 7 4) from rfl)
set_option maxRecDepth 20000 in
theorem r_Rows_make_43 : je X 108 43 [l0, some (.inl x), l2] S σ = je X 108 44 [l0, some (.inl x), l2] (.inl x :: S) σ := je_iload (show jm_fe 108 43 = some (jk_iload 1 1) from rfl) rfl
set_option maxRecDepth 20000 in
theorem r_Rows_make_44 : je X 108 44 L (.inl q :: .inl p :: S) σ = je X 108 45 L (.inl (p + q) :: S) σ := je_bin (show jm_fe 108 44 = some (jb_iadd) from rfl)
set_option maxRecDepth 20000 in
theorem r_Rows_make_45 : je X 108 45 L (.inl q :: .inl p :: S) σ = if q ≤ p then je X 108 68 L S σ else je X 108 48 L S σ := je_icmp_ge (show jm_fe 108 45 = some (jk_icmp .ge 68) from rfl)
set_option maxRecDepth 20000 in
theorem r_Rows_make_48 : je X 108 48 [l0, l1, some (.inl x)] S σ = je X 108 49 [l0, l1, some (.inl x)] (.inl x :: S) σ := je_iload (show jm_fe 108 48 = some (jk_iload 2 1) from rfl) rfl
set_option maxRecDepth 20000 in
theorem r_Rows_make_49 : je X 108 49 L S σ = je X 108 52 L (.inl 1024 :: S) σ := je_const (show jm_fe 108 49 = some (jk_const (1024) 3) from rfl)
set_option maxRecDepth 20000 in
theorem r_Rows_make_52 : je X 108 52 L (.inl q :: .inl p :: S) σ = if q ≤ p then je X 108 68 L S σ else je X 108 55 L S σ := je_icmp_ge (show jm_fe 108 52 = some (jk_icmp .ge 68) from rfl)
set_option maxRecDepth 20000 in
theorem r_Rows_make_55 : je X 108 55 [some (.inr r), l1, l2] S σ = je X 108 56 [some (.inr r), l1, l2] (.inr r :: S) σ := je_aload (show jm_fe 108 55 = some (jk_aload 0 1) from rfl) rfl
set_option maxRecDepth 20000 in
theorem r_Rows_make_56 : je X 108 56 L (.inr (.inl (some a)) :: S) σ = je_v X 108 59 L S σ (jm_gf σ.1 a 7 0) := je_getf (show jm_fe 108 56 = some (jk_getf 7 0) from rfl)
set_option maxRecDepth 20000 in
theorem r_Rows_make_59 : je X 108 59 [l0, l1, some (.inl x)] S σ = je X 108 60 [l0, l1, some (.inl x)] (.inl x :: S) σ := je_iload (show jm_fe 108 59 = some (jk_iload 2 1) from rfl) rfl
set_option maxRecDepth 20000 in
theorem r_Rows_make_60 : je X 108 60 L S σ = je X 108 61 L (.inl 0 :: S) σ := je_const (show jm_fe 108 60 = some (jk_const 0 1) from rfl)
set_option maxRecDepth 20000 in
theorem r_Rows_make_61 : je X 108 61 L (.inl q :: .inl p :: .inr (.inl (some a)) :: S) σ = je_h X 108 62 L S σ.2 (jm_as σ.1 a 0 p q) := je_iast (show jm_fe 108 61 = some (jk_iast) from rfl)
set_option maxRecDepth 20000 in
theorem r_Rows_make_62 : je X 108 62 [l0, l1, some (.inl x)] S σ = je X 108 65 [l0, l1, some (.inl (x + (1)))] S σ := je_iinc (show jm_fe 108 62 = some (jk_iinc 2 (1)) from rfl) rfl
set_option maxRecDepth 20000 in
theorem r_Rows_make_65 : je X 108 65 L S σ = je X 108 38 L S σ := je_goto (show jm_fe 108 65 = some (jk_goto 38) from rfl)
set_option maxRecDepth 20000 in
theorem r_Rows_make_68 : je X 108 68 [some (.inr r), l1, l2] S σ = je X 108 69 [some (.inr r), l1, l2] (.inr r :: S) σ := je_aload (show jm_fe 108 68 = some (jk_aload 0 1) from rfl) rfl
set_option maxRecDepth 20000 in
theorem r_Rows_make_69 : je X 108 69 L (v :: S) σ = je X 108 70 L (v :: v :: S) σ := je_dup (show jm_fe 108 69 = some (jk_dup) from rfl)
set_option maxRecDepth 20000 in
theorem r_Rows_make_70 : je X 108 70 L (.inr (.inl (some a)) :: S) σ = je_v X 108 73 L S σ (jm_gf σ.1 a 7 4) := je_getf (show jm_fe 108 70 = some (jk_getf 7 4) from rfl)
set_option maxRecDepth 20000 in
theorem r_Rows_make_73 : je X 108 73 [l0, some (.inl x), l2] S σ = je X 108 74 [l0, some (.inl x), l2] (.inl x :: S) σ := je_iload (show jm_fe 108 73 = some (jk_iload 1 1) from rfl) rfl
set_option maxRecDepth 20000 in
theorem r_Rows_make_74 : je X 108 74 L (.inl q :: .inl p :: S) σ = je X 108 75 L (.inl (p + q) :: S) σ := je_bin (show jm_fe 108 74 = some (jb_iadd) from rfl)
set_option maxRecDepth 20000 in
theorem r_Rows_make_75 : je X 108 75 L (v :: .inr (.inl (some a)) :: S) σ = je_h X 108 78 L S σ.2 (jm_pf σ.1 a 7 4 0 v) := je_putf (show jm_fe 108 75 = some (jk_putf 7 4 0) from rfl)
set_option maxRecDepth 20000 in
theorem r_Rows_make_78 : je X 108 78 [some (.inr r), l1, l2] S σ = je X 108 79 [some (.inr r), l1, l2] (.inr r :: S) σ := je_aload (show jm_fe 108 78 = some (jk_aload 0 1) from rfl) rfl
set_option maxRecDepth 20000 in
theorem r_Rows_make_79 : je X 108 79 L (v :: S) σ = je X 108 80 L (v :: v :: S) σ := je_dup (show jm_fe 108 79 = some (jk_dup) from rfl)
set_option maxRecDepth 20000 in
theorem r_Rows_make_80 : je X 108 80 L (.inr (.inl (some a)) :: S) σ = je_v X 108 83 L S σ (jm_gf σ.1 a 7 3) := je_getf (show jm_fe 108 80 = some (jk_getf 7 3) from rfl)
set_option maxRecDepth 20000 in
theorem r_Rows_make_83 : je X 108 83 L S σ = je X 108 84 L (.inl 1 :: S) σ := je_const (show jm_fe 108 83 = some (jk_const 1 1) from rfl)
set_option maxRecDepth 20000 in
theorem r_Rows_make_84 : je X 108 84 L (.inl q :: .inl p :: S) σ = je X 108 85 L (.inl (p + q) :: S) σ := je_bin (show jm_fe 108 84 = some (jb_iadd) from rfl)
set_option maxRecDepth 20000 in
theorem r_Rows_make_85 : je X 108 85 L (v :: .inr (.inl (some a)) :: S) σ = je_h X 108 88 L S σ.2 (jm_pf σ.1 a 7 3 0 v) := je_putf (show jm_fe 108 85 = some (jk_putf 7 3 0) from rfl)
set_option maxRecDepth 20000 in
theorem r_Rows_make_88 : je X 108 88 [some (.inr r), l1, l2] S σ = je X 108 89 [some (.inr r), l1, l2] (.inr r :: S) σ := je_aload (show jm_fe 108 88 = some (jk_aload 0 1) from rfl) rfl
set_option maxRecDepth 20000 in
theorem r_Rows_make_89 : je X 108 89 L (.inr (.inl (some a)) :: S) σ = je_v X 108 92 L S σ (jm_gf σ.1 a 7 3) := je_getf (show jm_fe 108 89 = some (jk_getf 7 3) from rfl)
set_option maxRecDepth 20000 in
theorem r_Rows_make_92 : je X 108 92 L [.inl p] σ = some (some (.inl p), σ) := je_iret (show jm_fe 108 92 = some (jk_iret) from rfl)
theorem r_Rows_has_0 : je X 109 0 [l0, some (.inl x), l2] S σ = je X 109 1 [l0, some (.inl x), l2] (.inl x :: S) σ := je_iload (show jm_fe 109 0 = some (jk_iload 1 1) from rfl) rfl
theorem r_Rows_has_1 : je X 109 1 L (.inl p :: S) σ = if p < 0 then je X 109 30 L S σ else je X 109 4 L S σ := je_if_lt (show jm_fe 109 1 = some (jk_if .lt 30) from rfl)
theorem r_Rows_has_4 : je X 109 4 [l0, some (.inl x), l2] S σ = je X 109 5 [l0, some (.inl x), l2] (.inl x :: S) σ := je_iload (show jm_fe 109 4 = some (jk_iload 1 1) from rfl) rfl
theorem r_Rows_has_5 : je X 109 5 [some (.inr r), l1, l2] S σ = je X 109 6 [some (.inr r), l1, l2] (.inr r :: S) σ := je_aload (show jm_fe 109 5 = some (jk_aload 0 1) from rfl) rfl
theorem r_Rows_has_6 : je X 109 6 L (.inr (.inl (some a)) :: S) σ = je_v X 109 9 L S σ (jm_gf σ.1 a 7 3) := je_getf (show jm_fe 109 6 = some (jk_getf 7 3) from rfl)
theorem r_Rows_has_9 : je X 109 9 L (.inl q :: .inl p :: S) σ = if q ≤ p then je X 109 30 L S σ else je X 109 12 L S σ := je_icmp_ge (show jm_fe 109 9 = some (jk_icmp .ge 30) from rfl)
theorem r_Rows_has_12 : je X 109 12 [l0, l1, some (.inl x)] S σ = je X 109 13 [l0, l1, some (.inl x)] (.inl x :: S) σ := je_iload (show jm_fe 109 12 = some (jk_iload 2 1) from rfl) rfl
theorem r_Rows_has_13 : je X 109 13 L (.inl p :: S) σ = if p < 0 then je X 109 30 L S σ else je X 109 16 L S σ := je_if_lt (show jm_fe 109 13 = some (jk_if .lt 30) from rfl)
theorem r_Rows_has_16 : je X 109 16 [l0, l1, some (.inl x)] S σ = je X 109 17 [l0, l1, some (.inl x)] (.inl x :: S) σ := je_iload (show jm_fe 109 16 = some (jk_iload 2 1) from rfl) rfl
theorem r_Rows_has_17 : je X 109 17 [some (.inr r), l1, l2] S σ = je X 109 18 [some (.inr r), l1, l2] (.inr r :: S) σ := je_aload (show jm_fe 109 17 = some (jk_aload 0 1) from rfl) rfl
theorem r_Rows_has_18 : je X 109 18 L (.inr (.inl (some a)) :: S) σ = je_v X 109 21 L S σ (jm_gf σ.1 a 7 2) := je_getf (show jm_fe 109 18 = some (jk_getf 7 2) from rfl)
theorem r_Rows_has_21 : je X 109 21 [l0, some (.inl x), l2] S σ = je X 109 22 [l0, some (.inl x), l2] (.inl x :: S) σ := je_iload (show jm_fe 109 21 = some (jk_iload 1 1) from rfl) rfl
theorem r_Rows_has_22 : je X 109 22 L (.inl p :: .inr (.inl (some a)) :: S) σ = je_i X 109 23 L S σ (jm_al σ.1 a 0 p) := je_ald (show jm_fe 109 22 = some (jk_ald 0) from rfl)
theorem r_Rows_has_23 : je X 109 23 L (.inl q :: .inl p :: S) σ = if q ≤ p then je X 109 30 L S σ else je X 109 26 L S σ := je_icmp_ge (show jm_fe 109 23 = some (jk_icmp .ge 30) from rfl)
theorem r_Rows_has_26 : je X 109 26 L S σ = je X 109 27 L (.inl 1 :: S) σ := je_const (show jm_fe 109 26 = some (jk_const 1 1) from rfl)
theorem r_Rows_has_27 : je X 109 27 L S σ = je X 109 31 L S σ := je_goto (show jm_fe 109 27 = some (jk_goto 31) from rfl)
theorem r_Rows_has_30 : je X 109 30 L S σ = je X 109 31 L (.inl 0 :: S) σ := je_const (show jm_fe 109 30 = some (jk_const 0 1) from rfl)
theorem r_Rows_has_31 (hx : p = 0 ∨ p = 1) : je X 109 31 L [.inl p] σ = some (some (.inl p), σ) := je_zret (show jm_fe 109 31 = some (jk_zret) from rfl) hx
theorem r_Rows_at_0 : je X 110 0 [some (.inr r), l1, l2] S σ = je X 110 1 [some (.inr r), l1, l2] (.inr r :: S) σ := je_aload (show jm_fe 110 0 = some (jk_aload 0 1) from rfl) rfl
theorem r_Rows_at_1 : je X 110 1 [l0, some (.inl x), l2] S σ = je X 110 2 [l0, some (.inl x), l2] (.inl x :: S) σ := je_iload (show jm_fe 110 1 = some (jk_iload 1 1) from rfl) rfl
theorem r_Rows_at_2 : je X 110 2 [l0, l1, some (.inl x)] S σ = je X 110 3 [l0, l1, some (.inl x)] (.inl x :: S) σ := je_iload (show jm_fe 110 2 = some (jk_iload 2 1) from rfl) rfl
theorem r_Rows_at_3 (hc : jm_cl σ.1 a = some 7) (h8 : S.length ≤ 8) : je X 110 3 L (v1 :: v0 :: .inr (.inl (some a)) :: S) σ = je_c X 110 6 L S (je X 109 0 [some (.inr (.inl (some a))), some v0, some v1] [] σ) := je_callV (as := [v0, v1]) (S' := S) (show jm_fe 110 3 = some (jk_callV 109 2 7) from rfl) rfl hc h8
theorem r_Rows_at_6 : je X 110 6 L (.inl p :: S) σ = if p = 0 then je X 110 25 L S σ else je X 110 9 L S σ := je_if_eq (show jm_fe 110 6 = some (jk_if .eq 25) from rfl)
theorem r_Rows_at_9 : je X 110 9 [some (.inr r), l1, l2] S σ = je X 110 10 [some (.inr r), l1, l2] (.inr r :: S) σ := je_aload (show jm_fe 110 9 = some (jk_aload 0 1) from rfl) rfl
theorem r_Rows_at_10 : je X 110 10 L (.inr (.inl (some a)) :: S) σ = je_v X 110 13 L S σ (jm_gf σ.1 a 7 0) := je_getf (show jm_fe 110 10 = some (jk_getf 7 0) from rfl)
theorem r_Rows_at_13 : je X 110 13 [some (.inr r), l1, l2] S σ = je X 110 14 [some (.inr r), l1, l2] (.inr r :: S) σ := je_aload (show jm_fe 110 13 = some (jk_aload 0 1) from rfl) rfl
theorem r_Rows_at_14 : je X 110 14 L (.inr (.inl (some a)) :: S) σ = je_v X 110 17 L S σ (jm_gf σ.1 a 7 1) := je_getf (show jm_fe 110 14 = some (jk_getf 7 1) from rfl)
theorem r_Rows_at_17 : je X 110 17 [l0, some (.inl x), l2] S σ = je X 110 18 [l0, some (.inl x), l2] (.inl x :: S) σ := je_iload (show jm_fe 110 17 = some (jk_iload 1 1) from rfl) rfl
theorem r_Rows_at_18 : je X 110 18 L (.inl p :: .inr (.inl (some a)) :: S) σ = je_i X 110 19 L S σ (jm_al σ.1 a 0 p) := je_ald (show jm_fe 110 18 = some (jk_ald 0) from rfl)
theorem r_Rows_at_19 : je X 110 19 [l0, l1, some (.inl x)] S σ = je X 110 20 [l0, l1, some (.inl x)] (.inl x :: S) σ := je_iload (show jm_fe 110 19 = some (jk_iload 2 1) from rfl) rfl
theorem r_Rows_at_20 : je X 110 20 L (.inl q :: .inl p :: S) σ = je X 110 21 L (.inl (p + q) :: S) σ := je_bin (show jm_fe 110 20 = some (jb_iadd) from rfl)
theorem r_Rows_at_21 : je X 110 21 L (.inl p :: .inr (.inl (some a)) :: S) σ = je_i X 110 22 L S σ (jm_al σ.1 a 0 p) := je_ald (show jm_fe 110 21 = some (jk_ald 0) from rfl)
theorem r_Rows_at_22 : je X 110 22 L S σ = je X 110 26 L S σ := je_goto (show jm_fe 110 22 = some (jk_goto 26) from rfl)
theorem r_Rows_at_25 : je X 110 25 L S σ = je X 110 26 L (.inl 0 :: S) σ := je_const (show jm_fe 110 25 = some (jk_const 0 1) from rfl)
theorem r_Rows_at_26 : je X 110 26 L [.inl p] σ = some (some (.inl p), σ) := je_iret (show jm_fe 110 26 = some (jk_iret) from rfl)
theorem r_Rows_set_0 : je X 111 0 [some (.inr r), l1, l2, l3] S σ = je X 111 1 [some (.inr r), l1, l2, l3] (.inr r :: S) σ := je_aload (show jm_fe 111 0 = some (jk_aload 0 1) from rfl) rfl
theorem r_Rows_set_1 : je X 111 1 [l0, some (.inl x), l2, l3] S σ = je X 111 2 [l0, some (.inl x), l2, l3] (.inl x :: S) σ := je_iload (show jm_fe 111 1 = some (jk_iload 1 1) from rfl) rfl
theorem r_Rows_set_2 : je X 111 2 [l0, l1, some (.inl x), l3] S σ = je X 111 3 [l0, l1, some (.inl x), l3] (.inl x :: S) σ := je_iload (show jm_fe 111 2 = some (jk_iload 2 1) from rfl) rfl
theorem r_Rows_set_3 (hc : jm_cl σ.1 a = some 7) (h8 : S.length ≤ 8) : je X 111 3 L (v1 :: v0 :: .inr (.inl (some a)) :: S) σ = je_c X 111 6 L S (je X 109 0 [some (.inr (.inl (some a))), some v0, some v1] [] σ) := je_callV (as := [v0, v1]) (S' := S) (show jm_fe 111 3 = some (jk_callV 109 2 7) from rfl) rfl hc h8
theorem r_Rows_set_6 : je X 111 6 L (.inl p :: S) σ = if p = 0 then je X 111 23 L S σ else je X 111 9 L S σ := je_if_eq (show jm_fe 111 6 = some (jk_if .eq 23) from rfl)
theorem r_Rows_set_9 : je X 111 9 [some (.inr r), l1, l2, l3] S σ = je X 111 10 [some (.inr r), l1, l2, l3] (.inr r :: S) σ := je_aload (show jm_fe 111 9 = some (jk_aload 0 1) from rfl) rfl
theorem r_Rows_set_10 : je X 111 10 L (.inr (.inl (some a)) :: S) σ = je_v X 111 13 L S σ (jm_gf σ.1 a 7 0) := je_getf (show jm_fe 111 10 = some (jk_getf 7 0) from rfl)
theorem r_Rows_set_13 : je X 111 13 [some (.inr r), l1, l2, l3] S σ = je X 111 14 [some (.inr r), l1, l2, l3] (.inr r :: S) σ := je_aload (show jm_fe 111 13 = some (jk_aload 0 1) from rfl) rfl
theorem r_Rows_set_14 : je X 111 14 L (.inr (.inl (some a)) :: S) σ = je_v X 111 17 L S σ (jm_gf σ.1 a 7 1) := je_getf (show jm_fe 111 14 = some (jk_getf 7 1) from rfl)
theorem r_Rows_set_17 : je X 111 17 [l0, some (.inl x), l2, l3] S σ = je X 111 18 [l0, some (.inl x), l2, l3] (.inl x :: S) σ := je_iload (show jm_fe 111 17 = some (jk_iload 1 1) from rfl) rfl
theorem r_Rows_set_18 : je X 111 18 L (.inl p :: .inr (.inl (some a)) :: S) σ = je_i X 111 19 L S σ (jm_al σ.1 a 0 p) := je_ald (show jm_fe 111 18 = some (jk_ald 0) from rfl)
theorem r_Rows_set_19 : je X 111 19 [l0, l1, some (.inl x), l3] S σ = je X 111 20 [l0, l1, some (.inl x), l3] (.inl x :: S) σ := je_iload (show jm_fe 111 19 = some (jk_iload 2 1) from rfl) rfl
theorem r_Rows_set_20 : je X 111 20 L (.inl q :: .inl p :: S) σ = je X 111 21 L (.inl (p + q) :: S) σ := je_bin (show jm_fe 111 20 = some (jb_iadd) from rfl)
theorem r_Rows_set_21 : je X 111 21 [l0, l1, l2, some (.inl x)] S σ = je X 111 22 [l0, l1, l2, some (.inl x)] (.inl x :: S) σ := je_iload (show jm_fe 111 21 = some (jk_iload 3 1) from rfl) rfl
theorem r_Rows_set_22 : je X 111 22 L (.inl q :: .inl p :: .inr (.inl (some a)) :: S) σ = je_h X 111 23 L S σ.2 (jm_as σ.1 a 0 p q) := je_iast (show jm_fe 111 22 = some (jk_iast) from rfl)
theorem r_Rows_set_23 : je X 111 23 L [] σ = some (none, σ) := je_ret (show jm_fe 111 23 = some (jk_ret) from rfl)
theorem r_Run_drop_0 : je X 113 0 [some (.inr r)] S σ = je X 113 1 [some (.inr r)] (.inr r :: S) σ := je_aload (show jm_fe 113 0 = some (jk_aload 0 1) from rfl) rfl
theorem r_Run_drop_1 : je X 113 1 L S σ = je X 113 2 L (.inl 0 :: S) σ := je_const (show jm_fe 113 1 = some (jk_const 0 1) from rfl)
theorem r_Run_drop_2 : je X 113 2 L (v :: .inr (.inl (some a)) :: S) σ = je_h X 113 5 L S σ.2 (jm_pf σ.1 a 4 5 1 v) := je_putf (show jm_fe 113 2 = some (jk_putf 4 5 1) from rfl)
theorem r_Run_drop_5 : je X 113 5 [some (.inr r)] S σ = je X 113 6 [some (.inr r)] (.inr r :: S) σ := je_aload (show jm_fe 113 5 = some (jk_aload 0 1) from rfl) rfl
theorem r_Run_drop_6 : je X 113 6 L S σ = je X 113 7 L (.inl 0 :: S) σ := je_const (show jm_fe 113 6 = some (jk_const 0 1) from rfl)
theorem r_Run_drop_7 : je X 113 7 L (v :: .inr (.inl (some a)) :: S) σ = je_h X 113 10 L S σ.2 (jm_pf σ.1 a 4 6 0 v) := je_putf (show jm_fe 113 7 = some (jk_putf 4 6 0) from rfl)
theorem r_Run_drop_10 : je X 113 10 [some (.inr r)] S σ = je X 113 11 [some (.inr r)] (.inr r :: S) σ := je_aload (show jm_fe 113 10 = some (jk_aload 0 1) from rfl) rfl
theorem r_Run_drop_11 : je X 113 11 L S σ = je X 113 12 L (.inl 0 :: S) σ := je_const (show jm_fe 113 11 = some (jk_const 0 1) from rfl)
theorem r_Run_drop_12 : je X 113 12 L (v :: .inr (.inl (some a)) :: S) σ = je_h X 113 15 L S σ.2 (jm_pf σ.1 a 4 7 0 v) := je_putf (show jm_fe 113 12 = some (jk_putf 4 7 0) from rfl)
theorem r_Run_drop_15 : je X 113 15 [some (.inr r)] S σ = je X 113 16 [some (.inr r)] (.inr r :: S) σ := je_aload (show jm_fe 113 15 = some (jk_aload 0 1) from rfl) rfl
theorem r_Run_drop_16 : je X 113 16 L S σ = je X 113 17 L (.inl 0 :: S) σ := je_const (show jm_fe 113 16 = some (jk_const 0 1) from rfl)
theorem r_Run_drop_17 : je X 113 17 L (v :: .inr (.inl (some a)) :: S) σ = je_h X 113 20 L S σ.2 (jm_pf σ.1 a 4 8 0 v) := je_putf (show jm_fe 113 17 = some (jk_putf 4 8 0) from rfl)
theorem r_Run_drop_20 : je X 113 20 [some (.inr r)] S σ = je X 113 21 [some (.inr r)] (.inr r :: S) σ := je_aload (show jm_fe 113 20 = some (jk_aload 0 1) from rfl) rfl
theorem r_Run_drop_21 : je X 113 21 L S σ = je X 113 22 L (.inl (-1) :: S) σ := je_const (show jm_fe 113 21 = some (jk_const (-1) 1) from rfl)
theorem r_Run_drop_22 : je X 113 22 L (v :: .inr (.inl (some a)) :: S) σ = je_h X 113 25 L S σ.2 (jm_pf σ.1 a 4 9 0 v) := je_putf (show jm_fe 113 22 = some (jk_putf 4 9 0) from rfl)
theorem r_Run_drop_25 : je X 113 25 [some (.inr r)] S σ = je X 113 26 [some (.inr r)] (.inr r :: S) σ := je_aload (show jm_fe 113 25 = some (jk_aload 0 1) from rfl) rfl
theorem r_Run_drop_26 : je X 113 26 L S σ = je X 113 27 L (.inl 0 :: S) σ := je_const (show jm_fe 113 26 = some (jk_const 0 1) from rfl)
theorem r_Run_drop_27 : je X 113 27 L (v :: .inr (.inl (some a)) :: S) σ = je_h X 113 30 L S σ.2 (jm_pf σ.1 a 4 10 0 v) := je_putf (show jm_fe 113 27 = some (jk_putf 4 10 0) from rfl)
set_option maxRecDepth 20000 in
theorem r_Run_drop_30 : je X 113 30 [some (.inr r)] S σ = je X 113 31 [some (.inr r)] (.inr r :: S) σ := je_aload (show jm_fe 113 30 = some (jk_aload 0 1) from rfl) rfl
set_option maxRecDepth 20000 in
theorem r_Run_drop_31 : je X 113 31 L S σ = je X 113 32 L (.inl 0 :: S) σ := je_const (show jm_fe 113 31 = some (jk_const 0 1) from rfl)
set_option maxRecDepth 20000 in
theorem r_Run_drop_32 : je X 113 32 L (v :: .inr (.inl (some a)) :: S) σ = je_h X 113 35 L S σ.2 (jm_pf σ.1 a 4 11 0 v) := je_putf (show jm_fe 113 32 = some (jk_putf 4 11 0) from rfl)
set_option maxRecDepth 20000 in
theorem r_Run_drop_35 : je X 113 35 [some (.inr r)] S σ = je X 113 36 [some (.inr r)] (.inr r :: S) σ := je_aload (show jm_fe 113 35 = some (jk_aload 0 1) from rfl) rfl
set_option maxRecDepth 20000 in
theorem r_Run_drop_36 : je X 113 36 L (.inr (.inl (some a)) :: S) σ = je_v X 113 39 L S σ (jm_gf σ.1 a 4 3) := je_getf (show jm_fe 113 36 = some (jk_getf 4 3) from rfl)
set_option maxRecDepth 20000 in
theorem r_Run_drop_39 (hc : jm_cl σ.1 a = some 7) (h8 : S.length ≤ 8) : je X 113 39 L (.inr (.inl (some a)) :: S) σ = je_c X 113 42 L S (je X 106 0 [some (.inr (.inl (some a)))] [] σ) := je_callV (as := []) (S' := S) (show jm_fe 113 39 = some (jk_callV 106 0 7) from rfl) rfl hc h8
set_option maxRecDepth 20000 in
theorem r_Run_drop_42 : je X 113 42 [some (.inr r)] S σ = je X 113 43 [some (.inr r)] (.inr r :: S) σ := je_aload (show jm_fe 113 42 = some (jk_aload 0 1) from rfl) rfl
set_option maxRecDepth 20000 in
theorem r_Run_drop_43 : je X 113 43 L (.inr (.inl (some a)) :: S) σ = je_v X 113 46 L S σ (jm_gf σ.1 a 4 4) := je_getf (show jm_fe 113 43 = some (jk_getf 4 4) from rfl)
set_option maxRecDepth 20000 in
theorem r_Run_drop_46 (hc : jm_cl σ.1 a = some 8) (h8 : S.length ≤ 8) : je X 113 46 L (.inr (.inl (some a)) :: S) σ = je_c X 113 49 L S (je X 98 0 [some (.inr (.inl (some a)))] [] σ) := je_callV (as := []) (S' := S) (show jm_fe 113 46 = some (jk_callV 98 0 8) from rfl) rfl hc h8
set_option maxRecDepth 20000 in
theorem r_Run_drop_49 : je X 113 49 L [] σ = some (none, σ) := je_ret (show jm_fe 113 49 = some (jk_ret) from rfl)
theorem r_Run_start_0 : je X 114 0 [some (.inr r)] S σ = je X 114 1 [some (.inr r)] (.inr r :: S) σ := je_aload (show jm_fe 114 0 = some (jk_aload 0 1) from rfl) rfl
theorem r_Run_start_1 (hc : jm_cl σ.1 a = some 4) (h8 : S.length ≤ 8) : je X 114 1 L (.inr (.inl (some a)) :: S) σ = je_c X 114 4 L S (je X 113 0 [some (.inr (.inl (some a)))] [] σ) := je_callV (as := []) (S' := S) (show jm_fe 114 1 = some (jk_callV 113 0 4) from rfl) rfl hc h8
theorem r_Run_start_4 : je X 114 4 [some (.inr r)] S σ = je X 114 5 [some (.inr r)] (.inr r :: S) σ := je_aload (show jm_fe 114 4 = some (jk_aload 0 1) from rfl) rfl
theorem r_Run_start_5 : je X 114 5 L S σ = je X 114 6 L (.inl 1 :: S) σ := je_const (show jm_fe 114 5 = some (jk_const 1 1) from rfl)
theorem r_Run_start_6 : je X 114 6 L (v :: .inr (.inl (some a)) :: S) σ = je_h X 114 9 L S σ.2 (jm_pf σ.1 a 4 5 1 v) := je_putf (show jm_fe 114 6 = some (jk_putf 4 5 1) from rfl)
theorem r_Run_start_9 : je X 114 9 [some (.inr r)] S σ = je X 114 10 [some (.inr r)] (.inr r :: S) σ := je_aload (show jm_fe 114 9 = some (jk_aload 0 1) from rfl) rfl
theorem r_Run_start_10 : je X 114 10 L S σ = je X 114 11 L (.inl 0 :: S) σ := je_const (show jm_fe 114 10 = some (jk_const 0 1) from rfl)
theorem r_Run_start_11 (hc : jm_cl σ.1 a = some 4) (h8 : S.length ≤ 8) : je X 114 11 L (v0 :: .inr (.inl (some a)) :: S) σ = je_c X 114 14 L S (je X 116 0 [some (.inr (.inl (some a))), some v0, none] [] σ) := je_callV (as := [v0]) (S' := S) (show jm_fe 114 11 = some (jk_callV 116 1 4) from rfl) rfl hc h8
theorem r_Run_start_14 : je X 114 14 L [] σ = some (none, σ) := je_ret (show jm_fe 114 14 = some (jk_ret) from rfl)
theorem r_Run_frameBelow_0 : je X 115 0 [l0, some (.inl x)] S σ = je X 115 1 [l0, some (.inl x)] (.inl x :: S) σ := je_iload (show jm_fe 115 0 = some (jk_iload 1 1) from rfl) rfl
theorem r_Run_frameBelow_1 : je X 115 1 L (.inl p :: S) σ = if p < 0 then je X 115 37 L S σ else je X 115 4 L S σ := je_if_lt (show jm_fe 115 1 = some (jk_if .lt 37) from rfl)
theorem r_Run_frameBelow_4 : je X 115 4 [l0, some (.inl x)] S σ = je X 115 5 [l0, some (.inl x)] (.inl x :: S) σ := je_iload (show jm_fe 115 4 = some (jk_iload 1 1) from rfl) rfl
theorem r_Run_frameBelow_5 : je X 115 5 [some (.inr r), l1] S σ = je X 115 6 [some (.inr r), l1] (.inr r :: S) σ := je_aload (show jm_fe 115 5 = some (jk_aload 0 1) from rfl) rfl
theorem r_Run_frameBelow_6 : je X 115 6 L (.inr (.inl (some a)) :: S) σ = je_v X 115 9 L S σ (jm_gf σ.1 a 4 6) := je_getf (show jm_fe 115 6 = some (jk_getf 4 6) from rfl)
theorem r_Run_frameBelow_9 : je X 115 9 L (.inl q :: .inl p :: S) σ = if q ≤ p then je X 115 37 L S σ else je X 115 12 L S σ := je_icmp_ge (show jm_fe 115 9 = some (jk_icmp .ge 37) from rfl)
theorem r_Run_frameBelow_12 : je X 115 12 [some (.inr r), l1] S σ = je X 115 13 [some (.inr r), l1] (.inr r :: S) σ := je_aload (show jm_fe 115 12 = some (jk_aload 0 1) from rfl) rfl
theorem r_Run_frameBelow_13 : je X 115 13 L (.inr (.inl (some a)) :: S) σ = je_v X 115 16 L S σ (jm_gf σ.1 a 4 6) := je_getf (show jm_fe 115 13 = some (jk_getf 4 6) from rfl)
theorem r_Run_frameBelow_16 : je X 115 16 L S σ = je X 115 18 L (.inl 20 :: S) σ := je_const (show jm_fe 115 16 = some (jk_const (20) 2) from rfl)
theorem r_Run_frameBelow_18 : je X 115 18 L (.inl q :: .inl p :: S) σ = if q < p then je X 115 37 L S σ else je X 115 21 L S σ := je_icmp_gt (show jm_fe 115 18 = some (jk_icmp .gt 37) from rfl)
theorem r_Run_frameBelow_21 : je X 115 21 [some (.inr r), l1] S σ = je X 115 22 [some (.inr r), l1] (.inr r :: S) σ := je_aload (show jm_fe 115 21 = some (jk_aload 0 1) from rfl) rfl
theorem r_Run_frameBelow_22 : je X 115 22 L (.inr (.inl (some a)) :: S) σ = je_v X 115 25 L S σ (jm_gf σ.1 a 4 2) := je_getf (show jm_fe 115 22 = some (jk_getf 4 2) from rfl)
theorem r_Run_frameBelow_25 : je X 115 25 [some (.inr r), l1] S σ = je X 115 26 [some (.inr r), l1] (.inr r :: S) σ := je_aload (show jm_fe 115 25 = some (jk_aload 0 1) from rfl) rfl
theorem r_Run_frameBelow_26 : je X 115 26 L (.inr (.inl (some a)) :: S) σ = je_v X 115 29 L S σ (jm_gf σ.1 a 4 6) := je_getf (show jm_fe 115 26 = some (jk_getf 4 6) from rfl)
theorem r_Run_frameBelow_29 : je X 115 29 L S σ = je X 115 30 L (.inl 1 :: S) σ := je_const (show jm_fe 115 29 = some (jk_const 1 1) from rfl)
theorem r_Run_frameBelow_30 : je X 115 30 L (.inl q :: .inl p :: S) σ = je X 115 31 L (.inl (p - q) :: S) σ := je_bin (show jm_fe 115 30 = some (jb_isub) from rfl)
set_option maxRecDepth 20000 in
theorem r_Run_frameBelow_31 : je X 115 31 [l0, some (.inl x)] S σ = je X 115 32 [l0, some (.inl x)] (.inl x :: S) σ := je_iload (show jm_fe 115 31 = some (jk_iload 1 1) from rfl) rfl
set_option maxRecDepth 20000 in
theorem r_Run_frameBelow_32 : je X 115 32 L (.inl q :: .inl p :: S) σ = je X 115 33 L (.inl (p - q) :: S) σ := je_bin (show jm_fe 115 32 = some (jb_isub) from rfl)
set_option maxRecDepth 20000 in
theorem r_Run_frameBelow_33 : je X 115 33 L (.inl p :: .inr (.inl (some a)) :: S) σ = je_r X 115 34 L S σ (jm_ar σ.1 a 3 p) := je_aald (show jm_fe 115 33 = some (jk_aald 3) from rfl)
set_option maxRecDepth 20000 in
theorem r_Run_frameBelow_34 : je X 115 34 L S σ = je X 115 38 L S σ := je_goto (show jm_fe 115 34 = some (jk_goto 38) from rfl)
set_option maxRecDepth 20000 in
theorem r_Run_frameBelow_37 : je X 115 37 L S σ = je X 115 38 L (.inr (.inl none) :: S) σ := je_null (show jm_fe 115 37 = some (jk_null) from rfl)
set_option maxRecDepth 20000 in
theorem r_Run_frameBelow_38 : je X 115 38 L [.inr (.inl o)] σ = some (some (.inr (.inl o)), σ) := je_aret (show jm_fe 115 38 = some (jk_aret) from rfl)
theorem r_Run_enter_0 : je X 116 0 [some (.inr r), l1, l2] S σ = je X 116 1 [some (.inr r), l1, l2] (.inr r :: S) σ := je_aload (show jm_fe 116 0 = some (jk_aload 0 1) from rfl) rfl
theorem r_Run_enter_1 : je X 116 1 L (.inr (.inl (some a)) :: S) σ = je_v X 116 4 L S σ (jm_gf σ.1 a 4 6) := je_getf (show jm_fe 116 1 = some (jk_getf 4 6) from rfl)
theorem r_Run_enter_4 : je X 116 4 L (.inl p :: S) σ = if p < 0 then je X 116 16 L S σ else je X 116 7 L S σ := je_if_lt (show jm_fe 116 4 = some (jk_if .lt 16) from rfl)
theorem r_Run_enter_7 : je X 116 7 [some (.inr r), l1, l2] S σ = je X 116 8 [some (.inr r), l1, l2] (.inr r :: S) σ := je_aload (show jm_fe 116 7 = some (jk_aload 0 1) from rfl) rfl
theorem r_Run_enter_8 : je X 116 8 L (.inr (.inl (some a)) :: S) σ = je_v X 116 11 L S σ (jm_gf σ.1 a 4 6) := je_getf (show jm_fe 116 8 = some (jk_getf 4 6) from rfl)
theorem r_Run_enter_11 : je X 116 11 L S σ = je X 116 13 L (.inl 20 :: S) σ := je_const (show jm_fe 116 11 = some (jk_const (20) 2) from rfl)
theorem r_Run_enter_13 : je X 116 13 L (.inl q :: .inl p :: S) σ = if p < q then je X 116 17 L S σ else je X 116 16 L S σ := je_icmp_lt (show jm_fe 116 13 = some (jk_icmp .lt 17) from rfl)
theorem r_Run_enter_16 : je X 116 16 L [] σ = some (none, σ) := je_ret (show jm_fe 116 16 = some (jk_ret) from rfl)
theorem r_Run_enter_17 : je X 116 17 [some (.inr r), l1, l2] S σ = je X 116 18 [some (.inr r), l1, l2] (.inr r :: S) σ := je_aload (show jm_fe 116 17 = some (jk_aload 0 1) from rfl) rfl
theorem r_Run_enter_18 : je X 116 18 L (.inr (.inl (some a)) :: S) σ = je_v X 116 21 L S σ (jm_gf σ.1 a 4 0) := je_getf (show jm_fe 116 18 = some (jk_getf 4 0) from rfl)
theorem r_Run_enter_21 : je X 116 21 [l0, some (.inl x), l2] S σ = je X 116 22 [l0, some (.inl x), l2] (.inl x :: S) σ := je_iload (show jm_fe 116 21 = some (jk_iload 1 1) from rfl) rfl
theorem r_Run_enter_22 (hc : jm_cl σ.1 a = some 1) (h8 : S.length ≤ 8) : je X 116 22 L (v0 :: .inr (.inl (some a)) :: S) σ = je_c X 116 25 L S (je X 104 0 [some (.inr (.inl (some a))), some v0] [] σ) := je_callV (as := [v0]) (S' := S) (show jm_fe 116 22 = some (jk_callV 104 1 1) from rfl) rfl hc h8
theorem r_Run_enter_25 : je X 116 25 [l0, l1, l2] (.inr r :: S) σ = je X 116 26 [l0, l1, some (.inr r)] S σ := je_astore (show jm_fe 116 25 = some (jk_astore 2 1) from rfl) (Nat.le_of_ble_eq_true rfl)
theorem r_Run_enter_26 : je X 116 26 [some (.inr r), l1, l2] S σ = je X 116 27 [some (.inr r), l1, l2] (.inr r :: S) σ := je_aload (show jm_fe 116 26 = some (jk_aload 0 1) from rfl) rfl
theorem r_Run_enter_27 : je X 116 27 L (.inr (.inl (some a)) :: S) σ = je_v X 116 30 L S σ (jm_gf σ.1 a 4 2) := je_getf (show jm_fe 116 27 = some (jk_getf 4 2) from rfl)
set_option maxRecDepth 20000 in
theorem r_Run_enter_30 : je X 116 30 [some (.inr r), l1, l2] S σ = je X 116 31 [some (.inr r), l1, l2] (.inr r :: S) σ := je_aload (show jm_fe 116 30 = some (jk_aload 0 1) from rfl) rfl
set_option maxRecDepth 20000 in
theorem r_Run_enter_31 : je X 116 31 L (.inr (.inl (some a)) :: S) σ = je_v X 116 34 L S σ (jm_gf σ.1 a 4 6) := je_getf (show jm_fe 116 31 = some (jk_getf 4 6) from rfl)
set_option maxRecDepth 20000 in
theorem r_Run_enter_34 : je X 116 34 L (.inl p :: .inr (.inl (some a)) :: S) σ = je_r X 116 35 L S σ (jm_ar σ.1 a 3 p) := je_aald (show jm_fe 116 34 = some (jk_aald 3) from rfl)
set_option maxRecDepth 20000 in
theorem r_Run_enter_35 : je X 116 35 [l0, some (.inl x), l2] S σ = je X 116 36 [l0, some (.inl x), l2] (.inl x :: S) σ := je_iload (show jm_fe 116 35 = some (jk_iload 1 1) from rfl) rfl
set_option maxRecDepth 20000 in
theorem r_Run_enter_36 : je X 116 36 [l0, l1, some (.inr r)] S σ = je X 116 37 [l0, l1, some (.inr r)] (.inr r :: S) σ := je_aload (show jm_fe 116 36 = some (jk_aload 2 1) from rfl) rfl
set_option maxRecDepth 20000 in
theorem r_Run_enter_37 : je X 116 37 L (.inr (.inl o) :: S) σ = if o = none then je X 116 40 L S σ else je X 116 44 L S σ := je_ifnonnull (show jm_fe 116 37 = some (jk_ifnonnull 44) from rfl)
set_option maxRecDepth 20000 in
theorem r_Run_enter_40 : je X 116 40 L S σ = je X 116 41 L (.inl 0 :: S) σ := je_const (show jm_fe 116 40 = some (jk_const 0 1) from rfl)
set_option maxRecDepth 20000 in
theorem r_Run_enter_41 : je X 116 41 L S σ = je X 116 48 L S σ := je_goto (show jm_fe 116 41 = some (jk_goto 48) from rfl)
set_option maxRecDepth 20000 in
theorem r_Run_enter_44 : je X 116 44 [l0, l1, some (.inr r)] S σ = je X 116 45 [l0, l1, some (.inr r)] (.inr r :: S) σ := je_aload (show jm_fe 116 44 = some (jk_aload 2 1) from rfl) rfl
set_option maxRecDepth 20000 in
theorem r_Run_enter_45 : je X 116 45 L (.inr (.inl (some a)) :: S) σ = je_v X 116 48 L S σ (jm_gf σ.1 a 2 8) := je_getf (show jm_fe 116 45 = some (jk_getf 2 8) from rfl)
set_option maxRecDepth 20000 in
theorem r_Run_enter_48 (hc : jm_cl σ.1 a = some 5) (h8 : S.length ≤ 8) : je X 116 48 L (v1 :: v0 :: .inr (.inl (some a)) :: S) σ = je_c X 116 51 L S (je X 83 0 [some (.inr (.inl (some a))), some v0, some v1] [] σ) := je_callV (as := [v0, v1]) (S' := S) (show jm_fe 116 48 = some (jk_callV 83 2 5) from rfl) rfl hc h8
set_option maxRecDepth 20000 in
theorem r_Run_enter_51 : je X 116 51 [some (.inr r), l1, l2] S σ = je X 116 52 [some (.inr r), l1, l2] (.inr r :: S) σ := je_aload (show jm_fe 116 51 = some (jk_aload 0 1) from rfl) rfl
set_option maxRecDepth 20000 in
theorem r_Run_enter_52 : je X 116 52 L (v :: S) σ = je X 116 53 L (v :: v :: S) σ := je_dup (show jm_fe 116 52 = some (jk_dup) from rfl)
set_option maxRecDepth 20000 in
theorem r_Run_enter_53 : je X 116 53 L (.inr (.inl (some a)) :: S) σ = je_v X 116 56 L S σ (jm_gf σ.1 a 4 6) := je_getf (show jm_fe 116 53 = some (jk_getf 4 6) from rfl)
set_option maxRecDepth 20000 in
theorem r_Run_enter_56 : je X 116 56 L S σ = je X 116 57 L (.inl 1 :: S) σ := je_const (show jm_fe 116 56 = some (jk_const 1 1) from rfl)
set_option maxRecDepth 20000 in
theorem r_Run_enter_57 : je X 116 57 L (.inl q :: .inl p :: S) σ = je X 116 58 L (.inl (p + q) :: S) σ := je_bin (show jm_fe 116 57 = some (jb_iadd) from rfl)
set_option maxRecDepth 20000 in
theorem r_Run_enter_58 : je X 116 58 L (v :: .inr (.inl (some a)) :: S) σ = je_h X 116 61 L S σ.2 (jm_pf σ.1 a 4 6 0 v) := je_putf (show jm_fe 116 58 = some (jk_putf 4 6 0) from rfl)
set_option maxRecDepth 20000 in
theorem r_Run_enter_61 : je X 116 61 [some (.inr r), l1, l2] S σ = je X 116 62 [some (.inr r), l1, l2] (.inr r :: S) σ := je_aload (show jm_fe 116 61 = some (jk_aload 0 1) from rfl) rfl
set_option maxRecDepth 20000 in
theorem r_Run_enter_62 : je X 116 62 [some (.inr r), l1, l2] S σ = je X 116 63 [some (.inr r), l1, l2] (.inr r :: S) σ := je_aload (show jm_fe 116 62 = some (jk_aload 0 1) from rfl) rfl
set_option maxRecDepth 20000 in
theorem r_Run_enter_63 : je X 116 63 L (.inr (.inl (some a)) :: S) σ = je_v X 116 66 L S σ (jm_gf σ.1 a 4 7) := je_getf (show jm_fe 116 63 = some (jk_getf 4 7) from rfl)
set_option maxRecDepth 20000 in
theorem r_Run_enter_66 : je X 116 66 [some (.inr r), l1, l2] S σ = je X 116 67 [some (.inr r), l1, l2] (.inr r :: S) σ := je_aload (show jm_fe 116 66 = some (jk_aload 0 1) from rfl) rfl
set_option maxRecDepth 20000 in
theorem r_Run_enter_67 : je X 116 67 L (.inr (.inl (some a)) :: S) σ = je_v X 116 70 L S σ (jm_gf σ.1 a 4 6) := je_getf (show jm_fe 116 67 = some (jk_getf 4 6) from rfl)
set_option maxRecDepth 20000 in
theorem r_Run_enter_70 (h8 : S.length ≤ 8) : je X 116 70 L (.inl q :: .inl p :: S) σ = je X 116 73 L (.inl (if p < q then q else p) :: S) σ := je_max (show jm_fe 116 70 = some (jk_max) from rfl) h8
set_option maxRecDepth 20000 in
theorem r_Run_enter_73 : je X 116 73 L (v :: .inr (.inl (some a)) :: S) σ = je_h X 116 76 L S σ.2 (jm_pf σ.1 a 4 7 0 v) := je_putf (show jm_fe 116 73 = some (jk_putf 4 7 0) from rfl)
set_option maxRecDepth 20000 in
theorem r_Run_enter_76 : je X 116 76 L [] σ = some (none, σ) := je_ret (show jm_fe 116 76 = some (jk_ret) from rfl)
theorem r_Run_end_0 : je X 117 0 [some (.inr r), l1, l2] S σ = je X 117 1 [some (.inr r), l1, l2] (.inr r :: S) σ := je_aload (show jm_fe 117 0 = some (jk_aload 0 1) from rfl) rfl
theorem r_Run_end_1 : je X 117 1 [l0, some (.inl x), l2] S σ = je X 117 2 [l0, some (.inl x), l2] (.inl x :: S) σ := je_iload (show jm_fe 117 1 = some (jk_iload 1 1) from rfl) rfl
theorem r_Run_end_2 : je X 117 2 L (v :: .inr (.inl (some a)) :: S) σ = je_h X 117 5 L S σ.2 (jm_pf σ.1 a 4 9 0 v) := je_putf (show jm_fe 117 2 = some (jk_putf 4 9 0) from rfl)
theorem r_Run_end_5 : je X 117 5 [some (.inr r), l1, l2] S σ = je X 117 6 [some (.inr r), l1, l2] (.inr r :: S) σ := je_aload (show jm_fe 117 5 = some (jk_aload 0 1) from rfl) rfl
theorem r_Run_end_6 : je X 117 6 [l0, l1, some (.inl x)] S σ = je X 117 7 [l0, l1, some (.inl x)] (.inl x :: S) σ := je_iload (show jm_fe 117 6 = some (jk_iload 2 1) from rfl) rfl
theorem r_Run_end_7 : je X 117 7 L (v :: .inr (.inl (some a)) :: S) σ = je_h X 117 10 L S σ.2 (jm_pf σ.1 a 4 10 0 v) := je_putf (show jm_fe 117 7 = some (jk_putf 4 10 0) from rfl)
theorem r_Run_end_10 : je X 117 10 [some (.inr r), l1, l2] S σ = je X 117 11 [some (.inr r), l1, l2] (.inr r :: S) σ := je_aload (show jm_fe 117 10 = some (jk_aload 0 1) from rfl) rfl
theorem r_Run_end_11 : je X 117 11 L S σ = je X 117 12 L (.inl 0 :: S) σ := je_const (show jm_fe 117 11 = some (jk_const 0 1) from rfl)
theorem r_Run_end_12 : je X 117 12 L (v :: .inr (.inl (some a)) :: S) σ = je_h X 117 15 L S σ.2 (jm_pf σ.1 a 4 6 0 v) := je_putf (show jm_fe 117 12 = some (jk_putf 4 6 0) from rfl)
theorem r_Run_end_15 : je X 117 15 L [] σ = some (none, σ) := je_ret (show jm_fe 117 15 = some (jk_ret) from rfl)
theorem r_Run_step_0 : je X 118 0 [some (.inr r), l1, l2] S σ = je X 118 1 [some (.inr r), l1, l2] (.inr r :: S) σ := je_aload (show jm_fe 118 0 = some (jk_aload 0 1) from rfl) rfl
theorem r_Run_step_1 : je X 118 1 L S σ = je X 118 2 L (.inl 0 :: S) σ := je_const (show jm_fe 118 1 = some (jk_const 0 1) from rfl)
theorem r_Run_step_2 (hc : jm_cl σ.1 a = some 4) (h8 : S.length ≤ 8) : je X 118 2 L (v0 :: .inr (.inl (some a)) :: S) σ = je_c X 118 5 L S (je X 115 0 [some (.inr (.inl (some a))), some v0] [] σ) := je_callV (as := [v0]) (S' := S) (show jm_fe 118 2 = some (jk_callV 115 1 4) from rfl) rfl hc h8
theorem r_Run_step_5 : je X 118 5 [l0, l1, l2] (.inr r :: S) σ = je X 118 6 [l0, some (.inr r), l2] S σ := je_astore (show jm_fe 118 5 = some (jk_astore 1 1) from rfl) (Nat.le_of_ble_eq_true rfl)
theorem r_Run_step_6 : je X 118 6 [l0, some (.inr r), l2] S σ = je X 118 7 [l0, some (.inr r), l2] (.inr r :: S) σ := je_aload (show jm_fe 118 6 = some (jk_aload 1 1) from rfl) rfl
theorem r_Run_step_7 : je X 118 7 L (.inr (.inl o) :: S) σ = if o = none then je X 118 10 L S σ else je X 118 11 L S σ := je_ifnonnull (show jm_fe 118 7 = some (jk_ifnonnull 11) from rfl)
theorem r_Run_step_10 : je X 118 10 L [] σ = some (none, σ) := je_ret (show jm_fe 118 10 = some (jk_ret) from rfl)
theorem r_Run_step_11 : je X 118 11 [some (.inr r), l1, l2] S σ = je X 118 12 [some (.inr r), l1, l2] (.inr r :: S) σ := je_aload (show jm_fe 118 11 = some (jk_aload 0 1) from rfl) rfl
theorem r_Run_step_12 : je X 118 12 L (v :: S) σ = je X 118 13 L (v :: v :: S) σ := je_dup (show jm_fe 118 12 = some (jk_dup) from rfl)
theorem r_Run_step_13 : je X 118 13 L (.inr (.inl (some a)) :: S) σ = je_v X 118 16 L S σ (jm_gf σ.1 a 4 8) := je_getf (show jm_fe 118 13 = some (jk_getf 4 8) from rfl)
theorem r_Run_step_16 : je X 118 16 L S σ = je X 118 17 L (.inl 1 :: S) σ := je_const (show jm_fe 118 16 = some (jk_const 1 1) from rfl)
theorem r_Run_step_17 : je X 118 17 L (.inl q :: .inl p :: S) σ = je X 118 18 L (.inl (p + q) :: S) σ := je_bin (show jm_fe 118 17 = some (jb_iadd) from rfl)
theorem r_Run_step_18 : je X 118 18 L (v :: .inr (.inl (some a)) :: S) σ = je_h X 118 21 L S σ.2 (jm_pf σ.1 a 4 8 0 v) := je_putf (show jm_fe 118 18 = some (jk_putf 4 8 0) from rfl)
set_option maxRecDepth 20000 in
theorem r_Run_step_21 : je X 118 21 [some (.inr r), l1, l2] S σ = je X 118 22 [some (.inr r), l1, l2] (.inr r :: S) σ := je_aload (show jm_fe 118 21 = some (jk_aload 0 1) from rfl) rfl
set_option maxRecDepth 20000 in
theorem r_Run_step_22 : je X 118 22 [l0, some (.inr r), l2] S σ = je X 118 23 [l0, some (.inr r), l2] (.inr r :: S) σ := je_aload (show jm_fe 118 22 = some (jk_aload 1 1) from rfl) rfl
set_option maxRecDepth 20000 in
theorem r_Run_step_23 (hc : jm_cl σ.1 a = some 4) (h8 : S.length ≤ 8) : je X 118 23 L (v0 :: .inr (.inl (some a)) :: S) σ = je_c X 118 26 L S (je X 119 0 [some (.inr (.inl (some a))), some v0, none, none, none, none, none] [] σ) := je_callV (as := [v0]) (S' := S) (show jm_fe 118 23 = some (jk_callV 119 1 4) from rfl) rfl hc h8
set_option maxRecDepth 20000 in
theorem r_Run_step_26 : je X 118 26 [l0, l1, l2] (.inl x :: S) σ = je X 118 27 [l0, l1, some (.inl x)] S σ := je_istore (show jm_fe 118 26 = some (jk_istore 2 1) from rfl) (Nat.le_of_ble_eq_true rfl)
set_option maxRecDepth 20000 in
theorem r_Run_step_27 : je X 118 27 [l0, l1, some (.inl x)] S σ = je X 118 28 [l0, l1, some (.inl x)] (.inl x :: S) σ := je_iload (show jm_fe 118 27 = some (jk_iload 2 1) from rfl) rfl
set_option maxRecDepth 20000 in
theorem r_Run_step_28 : je X 118 28 L (.inl p :: S) σ = if p = 0 then je X 118 31 L S σ else je X 118 44 L S σ := je_if_ne (show jm_fe 118 28 = some (jk_if .ne 44) from rfl)
set_option maxRecDepth 20000 in
theorem r_Run_step_31 : je X 118 31 [l0, some (.inr r), l2] S σ = je X 118 32 [l0, some (.inr r), l2] (.inr r :: S) σ := je_aload (show jm_fe 118 31 = some (jk_aload 1 1) from rfl) rfl
set_option maxRecDepth 20000 in
theorem r_Run_step_32 : je X 118 32 L (v :: S) σ = je X 118 33 L (v :: v :: S) σ := je_dup (show jm_fe 118 32 = some (jk_dup) from rfl)
set_option maxRecDepth 20000 in
theorem r_Run_step_33 : je X 118 33 L (.inr (.inl (some a)) :: S) σ = je_v X 118 36 L S σ (jm_gf σ.1 a 5 3) := je_getf (show jm_fe 118 33 = some (jk_getf 5 3) from rfl)
set_option maxRecDepth 20000 in
theorem r_Run_step_36 : je X 118 36 L S σ = je X 118 37 L (.inl 1 :: S) σ := je_const (show jm_fe 118 36 = some (jk_const 1 1) from rfl)
set_option maxRecDepth 20000 in
theorem r_Run_step_37 : je X 118 37 L (.inl q :: .inl p :: S) σ = je X 118 38 L (.inl (p + q) :: S) σ := je_bin (show jm_fe 118 37 = some (jb_iadd) from rfl)
set_option maxRecDepth 20000 in
theorem r_Run_step_38 : je X 118 38 L (v :: .inr (.inl (some a)) :: S) σ = je_h X 118 41 L S σ.2 (jm_pf σ.1 a 5 3 0 v) := je_putf (show jm_fe 118 38 = some (jk_putf 5 3 0) from rfl)
set_option maxRecDepth 20000 in
theorem r_Run_step_41 : je X 118 41 L S σ = je X 118 67 L S σ := je_goto (show jm_fe 118 41 = some (jk_goto 67) from rfl)
set_option maxRecDepth 20000 in
theorem r_Run_step_44 : je X 118 44 [l0, l1, some (.inl x)] S σ = je X 118 45 [l0, l1, some (.inl x)] (.inl x :: S) σ := je_iload (show jm_fe 118 44 = some (jk_iload 2 1) from rfl) rfl
set_option maxRecDepth 20000 in
theorem r_Run_step_45 : je X 118 45 L S σ = je X 118 46 L (.inl 2 :: S) σ := je_const (show jm_fe 118 45 = some (jk_const 2 1) from rfl)
set_option maxRecDepth 20000 in
theorem r_Run_step_46 : je X 118 46 L (.inl q :: .inl p :: S) σ = if p = q then je X 118 49 L S σ else je X 118 58 L S σ := je_icmp_ne (show jm_fe 118 46 = some (jk_icmp .ne 58) from rfl)
set_option maxRecDepth 20000 in
theorem r_Run_step_49 : je X 118 49 [some (.inr r), l1, l2] S σ = je X 118 50 [some (.inr r), l1, l2] (.inr r :: S) σ := je_aload (show jm_fe 118 49 = some (jk_aload 0 1) from rfl) rfl
set_option maxRecDepth 20000 in
theorem r_Run_step_50 : je X 118 50 L S σ = je X 118 51 L (.inl 2 :: S) σ := je_const (show jm_fe 118 50 = some (jk_const 2 1) from rfl)
set_option maxRecDepth 20000 in
theorem r_Run_step_51 : je X 118 51 L S σ = je X 118 52 L (.inl 0 :: S) σ := je_const (show jm_fe 118 51 = some (jk_const 0 1) from rfl)
set_option maxRecDepth 20000 in
theorem r_Run_step_52 (hc : jm_cl σ.1 a = some 4) (h8 : S.length ≤ 8) : je X 118 52 L (v1 :: v0 :: .inr (.inl (some a)) :: S) σ = je_c X 118 55 L S (je X 117 0 [some (.inr (.inl (some a))), some v0, some v1] [] σ) := je_callV (as := [v0, v1]) (S' := S) (show jm_fe 118 52 = some (jk_callV 117 2 4) from rfl) rfl hc h8
set_option maxRecDepth 20000 in
theorem r_Run_step_55 : je X 118 55 L S σ = je X 118 67 L S σ := je_goto (show jm_fe 118 55 = some (jk_goto 67) from rfl)
set_option maxRecDepth 20000 in
theorem r_Run_step_58 : je X 118 58 [l0, l1, some (.inl x)] S σ = je X 118 59 [l0, l1, some (.inl x)] (.inl x :: S) σ := je_iload (show jm_fe 118 58 = some (jk_iload 2 1) from rfl) rfl
set_option maxRecDepth 20000 in
theorem r_Run_step_59 : je X 118 59 L S σ = je X 118 60 L (.inl 3 :: S) σ := je_const (show jm_fe 118 59 = some (jk_const 3 1) from rfl)
set_option maxRecDepth 20000 in
theorem r_Run_step_60 : je X 118 60 L (.inl q :: .inl p :: S) σ = if p = q then je X 118 63 L S σ else je X 118 67 L S σ := je_icmp_ne (show jm_fe 118 60 = some (jk_icmp .ne 67) from rfl)
set_option maxRecDepth 20000 in
theorem r_Run_step_63 : je X 118 63 [some (.inr r), l1, l2] S σ = je X 118 64 [some (.inr r), l1, l2] (.inr r :: S) σ := je_aload (show jm_fe 118 63 = some (jk_aload 0 1) from rfl) rfl
set_option maxRecDepth 20000 in
theorem r_Run_step_64 (hc : jm_cl σ.1 a = some 4) (h8 : S.length ≤ 8) : je X 118 64 L (.inr (.inl (some a)) :: S) σ = je_c X 118 67 L S (je X 138 0 [some (.inr (.inl (some a))), none, none, none] [] σ) := je_callV (as := []) (S' := S) (show jm_fe 118 64 = some (jk_callV 138 0 4) from rfl) rfl hc h8
set_option maxRecDepth 20000 in
theorem r_Run_step_67 : je X 118 67 L [] σ = some (none, σ) := je_ret (show jm_fe 118 67 = some (jk_ret) from rfl)
theorem r_Run_perform_0 : je X 119 0 [some (.inr r), l1, l2, l3, l4, l5, l6] S σ = je X 119 1 [some (.inr r), l1, l2, l3, l4, l5, l6] (.inr r :: S) σ := je_aload (show jm_fe 119 0 = some (jk_aload 0 1) from rfl) rfl
theorem r_Run_perform_1 : je X 119 1 L (.inr (.inl (some a)) :: S) σ = je_v X 119 4 L S σ (jm_gf σ.1 a 4 0) := je_getf (show jm_fe 119 1 = some (jk_getf 4 0) from rfl)
theorem r_Run_perform_4 : je X 119 4 [l0, some (.inr r), l2, l3, l4, l5, l6] S σ = je X 119 5 [l0, some (.inr r), l2, l3, l4, l5, l6] (.inr r :: S) σ := je_aload (show jm_fe 119 4 = some (jk_aload 1 1) from rfl) rfl
theorem r_Run_perform_5 : je X 119 5 L (.inr (.inl (some a)) :: S) σ = je_v X 119 8 L S σ (jm_gf σ.1 a 5 2) := je_getf (show jm_fe 119 5 = some (jk_getf 5 2) from rfl)
theorem r_Run_perform_8 (hc : jm_cl σ.1 a = some 1) (h8 : S.length ≤ 8) : je X 119 8 L (v0 :: .inr (.inl (some a)) :: S) σ = je_c X 119 11 L S (je X 104 0 [some (.inr (.inl (some a))), some v0] [] σ) := je_callV (as := [v0]) (S' := S) (show jm_fe 119 8 = some (jk_callV 104 1 1) from rfl) rfl hc h8
theorem r_Run_perform_11 : je X 119 11 [l0, l1, l2, l3, l4, l5, l6] (.inr r :: S) σ = je X 119 12 [l0, l1, some (.inr r), l3, l4, l5, l6] S σ := je_astore (show jm_fe 119 11 = some (jk_astore 2 1) from rfl) (Nat.le_of_ble_eq_true rfl)
theorem r_Run_perform_12 : je X 119 12 [l0, some (.inr r), l2, l3, l4, l5, l6] S σ = je X 119 13 [l0, some (.inr r), l2, l3, l4, l5, l6] (.inr r :: S) σ := je_aload (show jm_fe 119 12 = some (jk_aload 1 1) from rfl) rfl
theorem r_Run_perform_13 : je X 119 13 L (.inr (.inl (some a)) :: S) σ = je_v X 119 16 L S σ (jm_gf σ.1 a 5 3) := je_getf (show jm_fe 119 13 = some (jk_getf 5 3) from rfl)
theorem r_Run_perform_16 : je X 119 16 [l0, l1, l2, l3, l4, l5, l6] (.inl x :: S) σ = je X 119 17 [l0, l1, l2, some (.inl x), l4, l5, l6] S σ := je_istore (show jm_fe 119 16 = some (jk_istore 3 1) from rfl) (Nat.le_of_ble_eq_true rfl)
theorem r_Run_perform_17 : je X 119 17 [l0, l1, some (.inr r), l3, l4, l5, l6] S σ = je X 119 18 [l0, l1, some (.inr r), l3, l4, l5, l6] (.inr r :: S) σ := je_aload (show jm_fe 119 17 = some (jk_aload 2 1) from rfl) rfl
theorem r_Run_perform_18 : je X 119 18 L (.inr (.inl o) :: S) σ = if o = none then je X 119 29 L S σ else je X 119 21 L S σ := je_ifnull (show jm_fe 119 18 = some (jk_ifnull 29) from rfl)
theorem r_Run_perform_21 : je X 119 21 [l0, l1, some (.inr r), l3, l4, l5, l6] S σ = je X 119 22 [l0, l1, some (.inr r), l3, l4, l5, l6] (.inr r :: S) σ := je_aload (show jm_fe 119 21 = some (jk_aload 2 1) from rfl) rfl
set_option maxRecDepth 20000 in
theorem r_Run_perform_22 : je X 119 22 [l0, l1, l2, some (.inl x), l4, l5, l6] S σ = je X 119 23 [l0, l1, l2, some (.inl x), l4, l5, l6] (.inl x :: S) σ := je_iload (show jm_fe 119 22 = some (jk_iload 3 1) from rfl) rfl
set_option maxRecDepth 20000 in
theorem r_Run_perform_23 (hc : jm_cl σ.1 a = some 2) (h8 : S.length ≤ 8) : je X 119 23 L (v0 :: .inr (.inl (some a)) :: S) σ = je_c X 119 26 L S (je X 89 0 [some (.inr (.inl (some a))), some v0] [] σ) := je_callV (as := [v0]) (S' := S) (show jm_fe 119 23 = some (jk_callV 89 1 2) from rfl) rfl hc h8
set_option maxRecDepth 20000 in
theorem r_Run_perform_26 : je X 119 26 L (.inl p :: S) σ = if p = 0 then je X 119 29 L S σ else je X 119 31 L S σ := je_if_ne (show jm_fe 119 26 = some (jk_if .ne 31) from rfl)
set_option maxRecDepth 20000 in
theorem r_Run_perform_29 : je X 119 29 L S σ = je X 119 30 L (.inl 2 :: S) σ := je_const (show jm_fe 119 29 = some (jk_const 2 1) from rfl)
set_option maxRecDepth 20000 in
theorem r_Run_perform_30 : je X 119 30 L [.inl p] σ = some (some (.inl p), σ) := je_iret (show jm_fe 119 30 = some (jk_iret) from rfl)
set_option maxRecDepth 20000 in
theorem r_Run_perform_31 : je X 119 31 [l0, some (.inr r), l2, l3, l4, l5, l6] S σ = je X 119 32 [l0, some (.inr r), l2, l3, l4, l5, l6] (.inr r :: S) σ := je_aload (show jm_fe 119 31 = some (jk_aload 1 1) from rfl) rfl
set_option maxRecDepth 20000 in
theorem r_Run_perform_32 : je X 119 32 L (.inr (.inl (some a)) :: S) σ = je_v X 119 35 L S σ (jm_gf σ.1 a 5 0) := je_getf (show jm_fe 119 32 = some (jk_getf 5 0) from rfl)
set_option maxRecDepth 20000 in
theorem r_Run_perform_35 : je X 119 35 [l0, l1, l2, l3, l4, l5, l6] (.inr r :: S) σ = je X 119 37 [l0, l1, l2, l3, some (.inr r), l5, l6] S σ := je_astore (show jm_fe 119 35 = some (jk_astore 4 2) from rfl) (Nat.le_of_ble_eq_true rfl)
set_option maxRecDepth 20000 in
theorem r_Run_perform_37 : je X 119 37 [l0, l1, some (.inr r), l3, l4, l5, l6] S σ = je X 119 38 [l0, l1, some (.inr r), l3, l4, l5, l6] (.inr r :: S) σ := je_aload (show jm_fe 119 37 = some (jk_aload 2 1) from rfl) rfl
set_option maxRecDepth 20000 in
theorem r_Run_perform_38 : je X 119 38 L (.inr (.inl (some a)) :: S) σ = je_v X 119 41 L S σ (jm_gf σ.1 a 2 1) := je_getf (show jm_fe 119 38 = some (jk_getf 2 1) from rfl)
set_option maxRecDepth 20000 in
theorem r_Run_perform_41 : je X 119 41 [l0, l1, l2, some (.inl x), l4, l5, l6] S σ = je X 119 42 [l0, l1, l2, some (.inl x), l4, l5, l6] (.inl x :: S) σ := je_iload (show jm_fe 119 41 = some (jk_iload 3 1) from rfl) rfl
set_option maxRecDepth 20000 in
theorem r_Run_perform_42 : je X 119 42 L (.inl p :: .inr (.inl (some a)) :: S) σ = je_i X 119 43 L S σ (jm_al σ.1 a 0 p) := je_ald (show jm_fe 119 42 = some (jk_ald 0) from rfl)
set_option maxRecDepth 20000 in
theorem r_Run_perform_43 : je X 119 43 [l0, l1, l2, l3, l4, l5, l6] (.inl x :: S) σ = je X 119 45 [l0, l1, l2, l3, l4, some (.inl x), l6] S σ := je_istore (show jm_fe 119 43 = some (jk_istore 5 2) from rfl) (Nat.le_of_ble_eq_true rfl)
set_option maxRecDepth 20000 in
theorem r_Run_perform_45 : je X 119 45 [l0, l1, some (.inr r), l3, l4, l5, l6] S σ = je X 119 46 [l0, l1, some (.inr r), l3, l4, l5, l6] (.inr r :: S) σ := je_aload (show jm_fe 119 45 = some (jk_aload 2 1) from rfl) rfl
set_option maxRecDepth 20000 in
theorem r_Run_perform_46 : je X 119 46 L (.inr (.inl (some a)) :: S) σ = je_v X 119 49 L S σ (jm_gf σ.1 a 2 0) := je_getf (show jm_fe 119 46 = some (jk_getf 2 0) from rfl)
set_option maxRecDepth 20000 in
theorem r_Run_perform_49 : je X 119 49 [l0, l1, l2, some (.inl x), l4, l5, l6] S σ = je X 119 50 [l0, l1, l2, some (.inl x), l4, l5, l6] (.inl x :: S) σ := je_iload (show jm_fe 119 49 = some (jk_iload 3 1) from rfl) rfl
set_option maxRecDepth 20000 in
theorem r_Run_perform_50 : je X 119 50 L (.inl p :: .inr (.inl (some a)) :: S) σ = je_i X 119 51 L S σ (jm_al σ.1 a 0 p) := je_ald (show jm_fe 119 50 = some (jk_ald 0) from rfl)
set_option maxRecDepth 20000 in
theorem r_Run_perform_51 : je X 119 51 [l0, l1, l2, l3, l4, l5, l6] (.inl x :: S) σ = je X 119 53 [l0, l1, l2, l3, l4, l5, some (.inl x)] S σ := je_istore (show jm_fe 119 51 = some (jk_istore 6 2) from rfl) (Nat.le_of_ble_eq_true rfl)
set_option maxRecDepth 20000 in
theorem r_Run_perform_53 : je X 119 53 [l0, l1, l2, l3, l4, l5, some (.inl x)] S σ = je X 119 55 [l0, l1, l2, l3, l4, l5, some (.inl x)] (.inl x :: S) σ := je_iload (show jm_fe 119 53 = some (jk_iload 6 2) from rfl) rfl
set_option maxRecDepth 20000 in
theorem r_Run_perform_55 : je X 119 55 L (.inl p :: S) σ = je X 119 (jm_sw [(0, 184), (1, 192), (2, 198), (3, 213), (4, 219), (5, 231), (6, 329), (7, 329), (8, 329), (9, 329), (10, 329), (11, 329), (12, 329), (13, 329), (14, 329), (15, 329), (16, 329), (17, 329), (18, 243), (19, 250), (20, 258), (21, 266), (22, 273), (23, 280), (24, 287), (25, 293), (26, 302), (27, 311), (28, 322)] 329 p) L S σ := je_sw (show jm_fe 119 55 = some (jk_sw [(0, 184), (1, 192), (2, 198), (3, 213), (4, 219), (5, 231), (6, 329), (7, 329), (8, 329), (9, 329), (10, 329), (11, 329), (12, 329), (13, 329), (14, 329), (15, 329), (16, 329), (17, 329), (18, 243), (19, 250), (20, 258), (21, 266), (22, 273), (23, 280), (24, 287), (25, 293), (26, 302), (27, 311), (28, 322)] 329) from rfl)
set_option maxRecDepth 20000 in
theorem r_Run_perform_184 : je X 119 184 [l0, l1, l2, l3, some (.inr r), l5, l6] S σ = je X 119 186 [l0, l1, l2, l3, some (.inr r), l5, l6] (.inr r :: S) σ := je_aload (show jm_fe 119 184 = some (jk_aload 4 2) from rfl) rfl
set_option maxRecDepth 20000 in
theorem r_Run_perform_186 : je X 119 186 [l0, l1, l2, l3, l4, some (.inl x), l6] S σ = je X 119 188 [l0, l1, l2, l3, l4, some (.inl x), l6] (.inl x :: S) σ := je_iload (show jm_fe 119 186 = some (jk_iload 5 2) from rfl) rfl
set_option maxRecDepth 20000 in
theorem r_Run_perform_188 (h8 : S.length ≤ 8) : je X 119 188 L (v1 :: v0 :: S) σ = je_c X 119 191 L S (je X 120 0 [some v0, some v1] [] σ) := je_callS (as := [v0, v1]) (S' := S) (show jm_fe 119 188 = some (jk_callS 120 2) from rfl) rfl h8
set_option maxRecDepth 20000 in
theorem r_Run_perform_191 : je X 119 191 L [.inl p] σ = some (some (.inl p), σ) := je_iret (show jm_fe 119 191 = some (jk_iret) from rfl)
set_option maxRecDepth 20000 in
theorem r_Run_perform_192 : je X 119 192 [l0, l1, l2, l3, some (.inr r), l5, l6] S σ = je X 119 194 [l0, l1, l2, l3, some (.inr r), l5, l6] (.inr r :: S) σ := je_aload (show jm_fe 119 192 = some (jk_aload 4 2) from rfl) rfl
set_option maxRecDepth 20000 in
theorem r_Run_perform_194 (h8 : S.length ≤ 8) : je X 119 194 L (v0 :: S) σ = je_c X 119 197 L S (je X 121 0 [some v0] [] σ) := je_callS (as := [v0]) (S' := S) (show jm_fe 119 194 = some (jk_callS 121 1) from rfl) rfl h8
set_option maxRecDepth 20000 in
theorem r_Run_perform_197 : je X 119 197 L [.inl p] σ = some (some (.inl p), σ) := je_iret (show jm_fe 119 197 = some (jk_iret) from rfl)
set_option maxRecDepth 20000 in
theorem r_Run_perform_198 : je X 119 198 [l0, l1, l2, l3, some (.inr r), l5, l6] S σ = je X 119 200 [l0, l1, l2, l3, some (.inr r), l5, l6] (.inr r :: S) σ := je_aload (show jm_fe 119 198 = some (jk_aload 4 2) from rfl) rfl
set_option maxRecDepth 20000 in
theorem r_Run_perform_200 : je X 119 200 [l0, l1, l2, l3, some (.inr r), l5, l6] S σ = je X 119 202 [l0, l1, l2, l3, some (.inr r), l5, l6] (.inr r :: S) σ := je_aload (show jm_fe 119 200 = some (jk_aload 4 2) from rfl) rfl
set_option maxRecDepth 20000 in
theorem r_Run_perform_202 : je X 119 202 L (.inr (.inl (some a)) :: S) σ = je_v X 119 205 L S σ (jm_gf σ.1 a 6 2) := je_getf (show jm_fe 119 202 = some (jk_getf 6 2) from rfl)
set_option maxRecDepth 20000 in
theorem r_Run_perform_205 : je X 119 205 L S σ = je X 119 206 L (.inl 1 :: S) σ := je_const (show jm_fe 119 205 = some (jk_const 1 1) from rfl)
set_option maxRecDepth 20000 in
theorem r_Run_perform_206 : je X 119 206 L (.inl q :: .inl p :: S) σ = je X 119 207 L (.inl (p - q) :: S) σ := je_bin (show jm_fe 119 206 = some (jb_isub) from rfl)
set_option maxRecDepth 20000 in
theorem r_Run_perform_207 : je X 119 207 [l0, l1, l2, l3, some (.inr r), l5, l6] S σ = je X 119 209 [l0, l1, l2, l3, some (.inr r), l5, l6] (.inr r :: S) σ := je_aload (show jm_fe 119 207 = some (jk_aload 4 2) from rfl) rfl
set_option maxRecDepth 20000 in
theorem r_Run_perform_209 (h8 : S.length ≤ 8) : je X 119 209 L (v2 :: v1 :: v0 :: S) σ = je_c X 119 212 L S (je X 122 0 [some v0, some v1, some v2, none] [] σ) := je_callS (as := [v0, v1, v2]) (S' := S) (show jm_fe 119 209 = some (jk_callS 122 3) from rfl) rfl h8
set_option maxRecDepth 20000 in
theorem r_Run_perform_212 : je X 119 212 L [.inl p] σ = some (some (.inl p), σ) := je_iret (show jm_fe 119 212 = some (jk_iret) from rfl)
set_option maxRecDepth 20000 in
theorem r_Run_perform_213 : je X 119 213 [l0, l1, l2, l3, some (.inr r), l5, l6] S σ = je X 119 215 [l0, l1, l2, l3, some (.inr r), l5, l6] (.inr r :: S) σ := je_aload (show jm_fe 119 213 = some (jk_aload 4 2) from rfl) rfl
set_option maxRecDepth 20000 in
theorem r_Run_perform_215 (h8 : S.length ≤ 8) : je X 119 215 L (v0 :: S) σ = je_c X 119 218 L S (je X 123 0 [some v0, none, none, none, none] [] σ) := je_callS (as := [v0]) (S' := S) (show jm_fe 119 215 = some (jk_callS 123 1) from rfl) rfl h8
set_option maxRecDepth 20000 in
theorem r_Run_perform_218 : je X 119 218 L [.inl p] σ = some (some (.inl p), σ) := je_iret (show jm_fe 119 218 = some (jk_iret) from rfl)
set_option maxRecDepth 20000 in
theorem r_Run_perform_219 : je X 119 219 [l0, some (.inr r), l2, l3, l4, l5, l6] S σ = je X 119 220 [l0, some (.inr r), l2, l3, l4, l5, l6] (.inr r :: S) σ := je_aload (show jm_fe 119 219 = some (jk_aload 1 1) from rfl) rfl
set_option maxRecDepth 20000 in
theorem r_Run_perform_220 : je X 119 220 L (.inr (.inl (some a)) :: S) σ = je_v X 119 223 L S σ (jm_gf σ.1 a 5 1) := je_getf (show jm_fe 119 220 = some (jk_getf 5 1) from rfl)
set_option maxRecDepth 20000 in
theorem r_Run_perform_223 : je X 119 223 [l0, l1, l2, l3, l4, some (.inl x), l6] S σ = je X 119 225 [l0, l1, l2, l3, l4, some (.inl x), l6] (.inl x :: S) σ := je_iload (show jm_fe 119 223 = some (jk_iload 5 2) from rfl) rfl
set_option maxRecDepth 20000 in
theorem r_Run_perform_225 : je X 119 225 [l0, l1, l2, l3, some (.inr r), l5, l6] S σ = je X 119 227 [l0, l1, l2, l3, some (.inr r), l5, l6] (.inr r :: S) σ := je_aload (show jm_fe 119 225 = some (jk_aload 4 2) from rfl) rfl
set_option maxRecDepth 20000 in
theorem r_Run_perform_227 (h8 : S.length ≤ 8) : je X 119 227 L (v2 :: v1 :: v0 :: S) σ = je_c X 119 230 L S (je X 122 0 [some v0, some v1, some v2, none] [] σ) := je_callS (as := [v0, v1, v2]) (S' := S) (show jm_fe 119 227 = some (jk_callS 122 3) from rfl) rfl h8
set_option maxRecDepth 20000 in
theorem r_Run_perform_230 : je X 119 230 L [.inl p] σ = some (some (.inl p), σ) := je_iret (show jm_fe 119 230 = some (jk_iret) from rfl)
set_option maxRecDepth 20000 in
theorem r_Run_perform_231 : je X 119 231 [l0, l1, l2, l3, some (.inr r), l5, l6] S σ = je X 119 233 [l0, l1, l2, l3, some (.inr r), l5, l6] (.inr r :: S) σ := je_aload (show jm_fe 119 231 = some (jk_aload 4 2) from rfl) rfl
set_option maxRecDepth 20000 in
theorem r_Run_perform_233 : je X 119 233 [l0, some (.inr r), l2, l3, l4, l5, l6] S σ = je X 119 234 [l0, some (.inr r), l2, l3, l4, l5, l6] (.inr r :: S) σ := je_aload (show jm_fe 119 233 = some (jk_aload 1 1) from rfl) rfl
set_option maxRecDepth 20000 in
theorem r_Run_perform_234 : je X 119 234 L (.inr (.inl (some a)) :: S) σ = je_v X 119 237 L S σ (jm_gf σ.1 a 5 1) := je_getf (show jm_fe 119 234 = some (jk_getf 5 1) from rfl)
set_option maxRecDepth 20000 in
theorem r_Run_perform_237 : je X 119 237 [l0, l1, l2, l3, l4, some (.inl x), l6] S σ = je X 119 239 [l0, l1, l2, l3, l4, some (.inl x), l6] (.inl x :: S) σ := je_iload (show jm_fe 119 237 = some (jk_iload 5 2) from rfl) rfl
set_option maxRecDepth 20000 in
theorem r_Run_perform_239 (h8 : S.length ≤ 8) : je X 119 239 L (v2 :: v1 :: v0 :: S) σ = je_c X 119 242 L S (je X 124 0 [some v0, some v1, some v2] [] σ) := je_callS (as := [v0, v1, v2]) (S' := S) (show jm_fe 119 239 = some (jk_callS 124 3) from rfl) rfl h8
set_option maxRecDepth 20000 in
theorem r_Run_perform_242 : je X 119 242 L [.inl p] σ = some (some (.inl p), σ) := je_iret (show jm_fe 119 242 = some (jk_iret) from rfl)
set_option maxRecDepth 20000 in
theorem r_Run_perform_243 : je X 119 243 [l0, some (.inr r), l2, l3, l4, l5, l6] S σ = je X 119 244 [l0, some (.inr r), l2, l3, l4, l5, l6] (.inr r :: S) σ := je_aload (show jm_fe 119 243 = some (jk_aload 1 1) from rfl) rfl
set_option maxRecDepth 20000 in
theorem r_Run_perform_244 : je X 119 244 [l0, l1, l2, l3, l4, some (.inl x), l6] S σ = je X 119 246 [l0, l1, l2, l3, l4, some (.inl x), l6] (.inl x :: S) σ := je_iload (show jm_fe 119 244 = some (jk_iload 5 2) from rfl) rfl
set_option maxRecDepth 20000 in
theorem r_Run_perform_246 (h8 : S.length ≤ 8) : je X 119 246 L (v1 :: v0 :: S) σ = je_c X 119 249 L S (je X 125 0 [some v0, some v1] [] σ) := je_callS (as := [v0, v1]) (S' := S) (show jm_fe 119 246 = some (jk_callS 125 2) from rfl) rfl h8
set_option maxRecDepth 20000 in
theorem r_Run_perform_249 : je X 119 249 L [.inl p] σ = some (some (.inl p), σ) := je_iret (show jm_fe 119 249 = some (jk_iret) from rfl)
set_option maxRecDepth 20000 in
theorem r_Run_perform_250 : je X 119 250 [l0, some (.inr r), l2, l3, l4, l5, l6] S σ = je X 119 251 [l0, some (.inr r), l2, l3, l4, l5, l6] (.inr r :: S) σ := je_aload (show jm_fe 119 250 = some (jk_aload 1 1) from rfl) rfl
set_option maxRecDepth 20000 in
theorem r_Run_perform_251 : je X 119 251 [l0, l1, l2, l3, l4, some (.inl x), l6] S σ = je X 119 253 [l0, l1, l2, l3, l4, some (.inl x), l6] (.inl x :: S) σ := je_iload (show jm_fe 119 251 = some (jk_iload 5 2) from rfl) rfl
set_option maxRecDepth 20000 in
theorem r_Run_perform_253 : je X 119 253 L S σ = je X 119 254 L (.inl 1 :: S) σ := je_const (show jm_fe 119 253 = some (jk_const 1 1) from rfl)
set_option maxRecDepth 20000 in
theorem r_Run_perform_254 (h8 : S.length ≤ 8) : je X 119 254 L (v2 :: v1 :: v0 :: S) σ = je_c X 119 257 L S (je X 126 0 [some v0, some v1, some v2, none] [] σ) := je_callS (as := [v0, v1, v2]) (S' := S) (show jm_fe 119 254 = some (jk_callS 126 3) from rfl) rfl h8
set_option maxRecDepth 20000 in
theorem r_Run_perform_257 : je X 119 257 L [.inl p] σ = some (some (.inl p), σ) := je_iret (show jm_fe 119 257 = some (jk_iret) from rfl)
set_option maxRecDepth 20000 in
theorem r_Run_perform_258 : je X 119 258 [l0, some (.inr r), l2, l3, l4, l5, l6] S σ = je X 119 259 [l0, some (.inr r), l2, l3, l4, l5, l6] (.inr r :: S) σ := je_aload (show jm_fe 119 258 = some (jk_aload 1 1) from rfl) rfl
set_option maxRecDepth 20000 in
theorem r_Run_perform_259 : je X 119 259 [l0, l1, l2, l3, l4, some (.inl x), l6] S σ = je X 119 261 [l0, l1, l2, l3, l4, some (.inl x), l6] (.inl x :: S) σ := je_iload (show jm_fe 119 259 = some (jk_iload 5 2) from rfl) rfl
set_option maxRecDepth 20000 in
theorem r_Run_perform_261 : je X 119 261 L S σ = je X 119 262 L (.inl 0 :: S) σ := je_const (show jm_fe 119 261 = some (jk_const 0 1) from rfl)
set_option maxRecDepth 20000 in
theorem r_Run_perform_262 (h8 : S.length ≤ 8) : je X 119 262 L (v2 :: v1 :: v0 :: S) σ = je_c X 119 265 L S (je X 126 0 [some v0, some v1, some v2, none] [] σ) := je_callS (as := [v0, v1, v2]) (S' := S) (show jm_fe 119 262 = some (jk_callS 126 3) from rfl) rfl h8
set_option maxRecDepth 20000 in
theorem r_Run_perform_265 : je X 119 265 L [.inl p] σ = some (some (.inl p), σ) := je_iret (show jm_fe 119 265 = some (jk_iret) from rfl)
set_option maxRecDepth 20000 in
theorem r_Run_perform_266 : je X 119 266 [some (.inr r), l1, l2, l3, l4, l5, l6] S σ = je X 119 267 [some (.inr r), l1, l2, l3, l4, l5, l6] (.inr r :: S) σ := je_aload (show jm_fe 119 266 = some (jk_aload 0 1) from rfl) rfl
set_option maxRecDepth 20000 in
theorem r_Run_perform_267 : je X 119 267 [l0, l1, l2, l3, some (.inr r), l5, l6] S σ = je X 119 269 [l0, l1, l2, l3, some (.inr r), l5, l6] (.inr r :: S) σ := je_aload (show jm_fe 119 267 = some (jk_aload 4 2) from rfl) rfl
set_option maxRecDepth 20000 in
theorem r_Run_perform_269 (hc : jm_cl σ.1 a = some 4) (h8 : S.length ≤ 8) : je X 119 269 L (v0 :: .inr (.inl (some a)) :: S) σ = je_c X 119 272 L S (je X 129 0 [some (.inr (.inl (some a))), some v0, none, none] [] σ) := je_callV (as := [v0]) (S' := S) (show jm_fe 119 269 = some (jk_callV 129 1 4) from rfl) rfl hc h8
set_option maxRecDepth 20000 in
theorem r_Run_perform_272 : je X 119 272 L [.inl p] σ = some (some (.inl p), σ) := je_iret (show jm_fe 119 272 = some (jk_iret) from rfl)
set_option maxRecDepth 20000 in
theorem r_Run_perform_273 : je X 119 273 [some (.inr r), l1, l2, l3, l4, l5, l6] S σ = je X 119 274 [some (.inr r), l1, l2, l3, l4, l5, l6] (.inr r :: S) σ := je_aload (show jm_fe 119 273 = some (jk_aload 0 1) from rfl) rfl
set_option maxRecDepth 20000 in
theorem r_Run_perform_274 : je X 119 274 [l0, l1, l2, l3, some (.inr r), l5, l6] S σ = je X 119 276 [l0, l1, l2, l3, some (.inr r), l5, l6] (.inr r :: S) σ := je_aload (show jm_fe 119 274 = some (jk_aload 4 2) from rfl) rfl
set_option maxRecDepth 20000 in
theorem r_Run_perform_276 (hc : jm_cl σ.1 a = some 4) (h8 : S.length ≤ 8) : je X 119 276 L (v0 :: .inr (.inl (some a)) :: S) σ = je_c X 119 279 L S (je X 130 0 [some (.inr (.inl (some a))), some v0, none, none] [] σ) := je_callV (as := [v0]) (S' := S) (show jm_fe 119 276 = some (jk_callV 130 1 4) from rfl) rfl hc h8
set_option maxRecDepth 20000 in
theorem r_Run_perform_279 : je X 119 279 L [.inl p] σ = some (some (.inl p), σ) := je_iret (show jm_fe 119 279 = some (jk_iret) from rfl)
set_option maxRecDepth 20000 in
theorem r_Run_perform_280 : je X 119 280 [some (.inr r), l1, l2, l3, l4, l5, l6] S σ = je X 119 281 [some (.inr r), l1, l2, l3, l4, l5, l6] (.inr r :: S) σ := je_aload (show jm_fe 119 280 = some (jk_aload 0 1) from rfl) rfl
set_option maxRecDepth 20000 in
theorem r_Run_perform_281 : je X 119 281 [l0, l1, l2, l3, some (.inr r), l5, l6] S σ = je X 119 283 [l0, l1, l2, l3, some (.inr r), l5, l6] (.inr r :: S) σ := je_aload (show jm_fe 119 281 = some (jk_aload 4 2) from rfl) rfl
set_option maxRecDepth 20000 in
theorem r_Run_perform_283 (hc : jm_cl σ.1 a = some 4) (h8 : S.length ≤ 8) : je X 119 283 L (v0 :: .inr (.inl (some a)) :: S) σ = je_c X 119 286 L S (je X 131 0 [some (.inr (.inl (some a))), some v0, none, none] [] σ) := je_callV (as := [v0]) (S' := S) (show jm_fe 119 283 = some (jk_callV 131 1 4) from rfl) rfl hc h8
set_option maxRecDepth 20000 in
theorem r_Run_perform_286 : je X 119 286 L [.inl p] σ = some (some (.inl p), σ) := je_iret (show jm_fe 119 286 = some (jk_iret) from rfl)
set_option maxRecDepth 20000 in
theorem r_Run_perform_287 : je X 119 287 [l0, l1, l2, l3, some (.inr r), l5, l6] S σ = je X 119 289 [l0, l1, l2, l3, some (.inr r), l5, l6] (.inr r :: S) σ := je_aload (show jm_fe 119 287 = some (jk_aload 4 2) from rfl) rfl
set_option maxRecDepth 20000 in
theorem r_Run_perform_289 (h8 : S.length ≤ 8) : je X 119 289 L (v0 :: S) σ = je_c X 119 292 L S (je X 132 0 [some v0] [] σ) := je_callS (as := [v0]) (S' := S) (show jm_fe 119 289 = some (jk_callS 132 1) from rfl) rfl h8
set_option maxRecDepth 20000 in
theorem r_Run_perform_292 : je X 119 292 L [.inl p] σ = some (some (.inl p), σ) := je_iret (show jm_fe 119 292 = some (jk_iret) from rfl)
set_option maxRecDepth 20000 in
theorem r_Run_perform_293 : je X 119 293 [some (.inr r), l1, l2, l3, l4, l5, l6] S σ = je X 119 294 [some (.inr r), l1, l2, l3, l4, l5, l6] (.inr r :: S) σ := je_aload (show jm_fe 119 293 = some (jk_aload 0 1) from rfl) rfl
set_option maxRecDepth 20000 in
theorem r_Run_perform_294 : je X 119 294 [l0, l1, l2, l3, some (.inr r), l5, l6] S σ = je X 119 296 [l0, l1, l2, l3, some (.inr r), l5, l6] (.inr r :: S) σ := je_aload (show jm_fe 119 294 = some (jk_aload 4 2) from rfl) rfl
set_option maxRecDepth 20000 in
theorem r_Run_perform_296 : je X 119 296 [l0, l1, l2, l3, l4, some (.inl x), l6] S σ = je X 119 298 [l0, l1, l2, l3, l4, some (.inl x), l6] (.inl x :: S) σ := je_iload (show jm_fe 119 296 = some (jk_iload 5 2) from rfl) rfl
set_option maxRecDepth 20000 in
theorem r_Run_perform_298 (hc : jm_cl σ.1 a = some 4) (h8 : S.length ≤ 8) : je X 119 298 L (v1 :: v0 :: .inr (.inl (some a)) :: S) σ = je_c X 119 301 L S (je X 133 0 [some (.inr (.inl (some a))), some v0, some v1, none, none, none, none] [] σ) := je_callV (as := [v0, v1]) (S' := S) (show jm_fe 119 298 = some (jk_callV 133 2 4) from rfl) rfl hc h8
set_option maxRecDepth 20000 in
theorem r_Run_perform_301 : je X 119 301 L [.inl p] σ = some (some (.inl p), σ) := je_iret (show jm_fe 119 301 = some (jk_iret) from rfl)
set_option maxRecDepth 20000 in
theorem r_Run_perform_302 : je X 119 302 [some (.inr r), l1, l2, l3, l4, l5, l6] S σ = je X 119 303 [some (.inr r), l1, l2, l3, l4, l5, l6] (.inr r :: S) σ := je_aload (show jm_fe 119 302 = some (jk_aload 0 1) from rfl) rfl
set_option maxRecDepth 20000 in
theorem r_Run_perform_303 : je X 119 303 [l0, l1, l2, l3, some (.inr r), l5, l6] S σ = je X 119 305 [l0, l1, l2, l3, some (.inr r), l5, l6] (.inr r :: S) σ := je_aload (show jm_fe 119 303 = some (jk_aload 4 2) from rfl) rfl
set_option maxRecDepth 20000 in
theorem r_Run_perform_305 : je X 119 305 [l0, l1, l2, l3, l4, some (.inl x), l6] S σ = je X 119 307 [l0, l1, l2, l3, l4, some (.inl x), l6] (.inl x :: S) σ := je_iload (show jm_fe 119 305 = some (jk_iload 5 2) from rfl) rfl
set_option maxRecDepth 20000 in
theorem r_Run_perform_307 (hc : jm_cl σ.1 a = some 4) (h8 : S.length ≤ 8) : je X 119 307 L (v1 :: v0 :: .inr (.inl (some a)) :: S) σ = je_c X 119 310 L S (je X 134 0 [some (.inr (.inl (some a))), some v0, some v1, none, none] [] σ) := je_callV (as := [v0, v1]) (S' := S) (show jm_fe 119 307 = some (jk_callV 134 2 4) from rfl) rfl hc h8
set_option maxRecDepth 20000 in
theorem r_Run_perform_310 : je X 119 310 L [.inl p] σ = some (some (.inl p), σ) := je_iret (show jm_fe 119 310 = some (jk_iret) from rfl)
set_option maxRecDepth 20000 in
theorem r_Run_perform_311 : je X 119 311 [some (.inr r), l1, l2, l3, l4, l5, l6] S σ = je X 119 312 [some (.inr r), l1, l2, l3, l4, l5, l6] (.inr r :: S) σ := je_aload (show jm_fe 119 311 = some (jk_aload 0 1) from rfl) rfl
set_option maxRecDepth 20000 in
theorem r_Run_perform_312 : je X 119 312 [l0, l1, l2, l3, some (.inr r), l5, l6] S σ = je X 119 314 [l0, l1, l2, l3, some (.inr r), l5, l6] (.inr r :: S) σ := je_aload (show jm_fe 119 312 = some (jk_aload 4 2) from rfl) rfl
set_option maxRecDepth 20000 in
theorem r_Run_perform_314 : je X 119 314 [l0, l1, some (.inr r), l3, l4, l5, l6] S σ = je X 119 315 [l0, l1, some (.inr r), l3, l4, l5, l6] (.inr r :: S) σ := je_aload (show jm_fe 119 314 = some (jk_aload 2 1) from rfl) rfl
set_option maxRecDepth 20000 in
theorem r_Run_perform_315 : je X 119 315 L (.inr (.inl (some a)) :: S) σ = je_v X 119 318 L S σ (jm_gf σ.1 a 2 9) := je_getf (show jm_fe 119 315 = some (jk_getf 2 9) from rfl)
set_option maxRecDepth 20000 in
theorem r_Run_perform_318 (hc : jm_cl σ.1 a = some 4) (h8 : S.length ≤ 8) : je X 119 318 L (v1 :: v0 :: .inr (.inl (some a)) :: S) σ = je_c X 119 321 L S (je X 135 0 [some (.inr (.inl (some a))), some v0, some v1, none] [] σ) := je_callV (as := [v0, v1]) (S' := S) (show jm_fe 119 318 = some (jk_callV 135 2 4) from rfl) rfl hc h8
set_option maxRecDepth 20000 in
theorem r_Run_perform_321 : je X 119 321 L [.inl p] σ = some (some (.inl p), σ) := je_iret (show jm_fe 119 321 = some (jk_iret) from rfl)
set_option maxRecDepth 20000 in
theorem r_Run_perform_322 : je X 119 322 [some (.inr r), l1, l2, l3, l4, l5, l6] S σ = je X 119 323 [some (.inr r), l1, l2, l3, l4, l5, l6] (.inr r :: S) σ := je_aload (show jm_fe 119 322 = some (jk_aload 0 1) from rfl) rfl
set_option maxRecDepth 20000 in
theorem r_Run_perform_323 : je X 119 323 [l0, l1, l2, l3, some (.inr r), l5, l6] S σ = je X 119 325 [l0, l1, l2, l3, some (.inr r), l5, l6] (.inr r :: S) σ := je_aload (show jm_fe 119 323 = some (jk_aload 4 2) from rfl) rfl
set_option maxRecDepth 20000 in
theorem r_Run_perform_325 (hc : jm_cl σ.1 a = some 4) (h8 : S.length ≤ 8) : je X 119 325 L (v0 :: .inr (.inl (some a)) :: S) σ = je_c X 119 328 L S (je X 136 0 [some (.inr (.inl (some a))), some v0] [] σ) := je_callV (as := [v0]) (S' := S) (show jm_fe 119 325 = some (jk_callV 136 1 4) from rfl) rfl hc h8
set_option maxRecDepth 20000 in
theorem r_Run_perform_328 : je X 119 328 L [.inl p] σ = some (some (.inl p), σ) := je_iret (show jm_fe 119 328 = some (jk_iret) from rfl)
set_option maxRecDepth 20000 in
theorem r_Run_perform_329 : je X 119 329 [some (.inr r), l1, l2, l3, l4, l5, l6] S σ = je X 119 330 [some (.inr r), l1, l2, l3, l4, l5, l6] (.inr r :: S) σ := je_aload (show jm_fe 119 329 = some (jk_aload 0 1) from rfl) rfl
set_option maxRecDepth 20000 in
theorem r_Run_perform_330 : je X 119 330 [l0, l1, l2, l3, some (.inr r), l5, l6] S σ = je X 119 332 [l0, l1, l2, l3, some (.inr r), l5, l6] (.inr r :: S) σ := je_aload (show jm_fe 119 330 = some (jk_aload 4 2) from rfl) rfl
set_option maxRecDepth 20000 in
theorem r_Run_perform_332 : je X 119 332 [l0, l1, l2, l3, l4, l5, some (.inl x)] S σ = je X 119 334 [l0, l1, l2, l3, l4, l5, some (.inl x)] (.inl x :: S) σ := je_iload (show jm_fe 119 332 = some (jk_iload 6 2) from rfl) rfl
set_option maxRecDepth 20000 in
theorem r_Run_perform_334 (hc : jm_cl σ.1 a = some 4) (h8 : S.length ≤ 8) : je X 119 334 L (v1 :: v0 :: .inr (.inl (some a)) :: S) σ = je_c X 119 337 L S (je X 127 0 [some (.inr (.inl (some a))), some v0, some v1, none, none] [] σ) := je_callV (as := [v0, v1]) (S' := S) (show jm_fe 119 334 = some (jk_callV 127 2 4) from rfl) rfl hc h8
set_option maxRecDepth 20000 in
theorem r_Run_perform_337 : je X 119 337 L [.inl p] σ = some (some (.inl p), σ) := je_iret (show jm_fe 119 337 = some (jk_iret) from rfl)
theorem r_Run_pushInt_0 : je X 120 0 [some (.inr r), l1] S σ = je X 120 1 [some (.inr r), l1] (.inr r :: S) σ := je_aload (show jm_fe 120 0 = some (jk_aload 0 1) from rfl) rfl
theorem r_Run_pushInt_1 (hc : jm_cl σ.1 a = some 6) (h8 : S.length ≤ 8) : je X 120 1 L (.inr (.inl (some a)) :: S) σ = je_c X 120 4 L S (je X 70 0 [some (.inr (.inl (some a)))] [] σ) := je_callV (as := []) (S' := S) (show jm_fe 120 1 = some (jk_callV 70 0 6) from rfl) rfl hc h8
theorem r_Run_pushInt_4 : je X 120 4 L (.inl p :: S) σ = if p = 0 then je X 120 9 L S σ else je X 120 7 L S σ := je_if_eq (show jm_fe 120 4 = some (jk_if .eq 9) from rfl)
theorem r_Run_pushInt_7 : je X 120 7 L S σ = je X 120 8 L (.inl 2 :: S) σ := je_const (show jm_fe 120 7 = some (jk_const 2 1) from rfl)
theorem r_Run_pushInt_8 : je X 120 8 L [.inl p] σ = some (some (.inl p), σ) := je_iret (show jm_fe 120 8 = some (jk_iret) from rfl)
theorem r_Run_pushInt_9 : je X 120 9 [some (.inr r), l1] S σ = je X 120 10 [some (.inr r), l1] (.inr r :: S) σ := je_aload (show jm_fe 120 9 = some (jk_aload 0 1) from rfl) rfl
theorem r_Run_pushInt_10 : je X 120 10 [l0, some (.inl x)] S σ = je X 120 11 [l0, some (.inl x)] (.inl x :: S) σ := je_iload (show jm_fe 120 10 = some (jk_iload 1 1) from rfl) rfl
theorem r_Run_pushInt_11 : je X 120 11 L S σ = je X 120 12 L (.inl 0 :: S) σ := je_const (show jm_fe 120 11 = some (jk_const 0 1) from rfl)
theorem r_Run_pushInt_12 (hc : jm_cl σ.1 a = some 6) (h8 : S.length ≤ 8) : je X 120 12 L (v1 :: v0 :: .inr (.inl (some a)) :: S) σ = je_c X 120 15 L S (je X 78 0 [some (.inr (.inl (some a))), some v0, some v1] [] σ) := je_callV (as := [v0, v1]) (S' := S) (show jm_fe 120 12 = some (jk_callV 78 2 6) from rfl) rfl hc h8
theorem r_Run_pushInt_15 : je X 120 15 L S σ = je X 120 16 L (.inl 0 :: S) σ := je_const (show jm_fe 120 15 = some (jk_const 0 1) from rfl)
theorem r_Run_pushInt_16 : je X 120 16 L [.inl p] σ = some (some (.inl p), σ) := je_iret (show jm_fe 120 16 = some (jk_iret) from rfl)
theorem r_Run_pop_0 : je X 121 0 [some (.inr r)] S σ = je X 121 1 [some (.inr r)] (.inr r :: S) σ := je_aload (show jm_fe 121 0 = some (jk_aload 0 1) from rfl) rfl
theorem r_Run_pop_1 : je X 121 1 L (.inr (.inl (some a)) :: S) σ = je_v X 121 4 L S σ (jm_gf σ.1 a 6 2) := je_getf (show jm_fe 121 1 = some (jk_getf 6 2) from rfl)
theorem r_Run_pop_4 : je X 121 4 L S σ = je X 121 5 L (.inl 1 :: S) σ := je_const (show jm_fe 121 4 = some (jk_const 1 1) from rfl)
theorem r_Run_pop_5 : je X 121 5 L (.inl q :: .inl p :: S) σ = if q ≤ p then je X 121 10 L S σ else je X 121 8 L S σ := je_icmp_ge (show jm_fe 121 5 = some (jk_icmp .ge 10) from rfl)
theorem r_Run_pop_8 : je X 121 8 L S σ = je X 121 9 L (.inl 2 :: S) σ := je_const (show jm_fe 121 8 = some (jk_const 2 1) from rfl)
theorem r_Run_pop_9 : je X 121 9 L [.inl p] σ = some (some (.inl p), σ) := je_iret (show jm_fe 121 9 = some (jk_iret) from rfl)
theorem r_Run_pop_10 : je X 121 10 [some (.inr r)] S σ = je X 121 11 [some (.inr r)] (.inr r :: S) σ := je_aload (show jm_fe 121 10 = some (jk_aload 0 1) from rfl) rfl
theorem r_Run_pop_11 : je X 121 11 L S σ = je X 121 12 L (.inl 1 :: S) σ := je_const (show jm_fe 121 11 = some (jk_const 1 1) from rfl)
theorem r_Run_pop_12 (hc : jm_cl σ.1 a = some 6) (h8 : S.length ≤ 8) : je X 121 12 L (v0 :: .inr (.inl (some a)) :: S) σ = je_c X 121 15 L S (je X 80 0 [some (.inr (.inl (some a))), some v0] [] σ) := je_callV (as := [v0]) (S' := S) (show jm_fe 121 12 = some (jk_callV 80 1 6) from rfl) rfl hc h8
theorem r_Run_pop_15 : je X 121 15 L S σ = je X 121 16 L (.inl 0 :: S) σ := je_const (show jm_fe 121 15 = some (jk_const 0 1) from rfl)
set_option maxRecDepth 20000 in
theorem r_Run_pop_16 : je X 121 16 L [.inl p] σ = some (some (.inl p), σ) := je_iret (show jm_fe 121 16 = some (jk_iret) from rfl)
theorem r_Run_copy_0 : je X 122 0 [some (.inr r), l1, l2, l3] S σ = je X 122 1 [some (.inr r), l1, l2, l3] (.inr r :: S) σ := je_aload (show jm_fe 122 0 = some (jk_aload 0 1) from rfl) rfl
theorem r_Run_copy_1 : je X 122 1 [l0, some (.inl x), l2, l3] S σ = je X 122 2 [l0, some (.inl x), l2, l3] (.inl x :: S) σ := je_iload (show jm_fe 122 1 = some (jk_iload 1 1) from rfl) rfl
theorem r_Run_copy_2 (hc : jm_cl σ.1 a = some 6) (h8 : S.length ≤ 8) : je X 122 2 L (v0 :: .inr (.inl (some a)) :: S) σ = je_c X 122 5 L S (je X 72 0 [some (.inr (.inl (some a))), some v0] [] σ) := je_callV (as := [v0]) (S' := S) (show jm_fe 122 2 = some (jk_callV 72 1 6) from rfl) rfl hc h8
theorem r_Run_copy_5 : je X 122 5 [l0, l1, l2, l3] (.inl x :: S) σ = je X 122 6 [l0, l1, l2, some (.inl x)] S σ := je_istore (show jm_fe 122 5 = some (jk_istore 3 1) from rfl) (Nat.le_of_ble_eq_true rfl)
theorem r_Run_copy_6 : je X 122 6 [l0, l1, l2, some (.inl x)] S σ = je X 122 7 [l0, l1, l2, some (.inl x)] (.inl x :: S) σ := je_iload (show jm_fe 122 6 = some (jk_iload 3 1) from rfl) rfl
theorem r_Run_copy_7 : je X 122 7 L S σ = je X 122 8 L (.inl (-1) :: S) σ := je_const (show jm_fe 122 7 = some (jk_const (-1) 1) from rfl)
theorem r_Run_copy_8 : je X 122 8 L (.inl q :: .inl p :: S) σ = if p = q then je X 122 18 L S σ else je X 122 11 L S σ := je_icmp_eq (show jm_fe 122 8 = some (jk_icmp .eq 18) from rfl)
theorem r_Run_copy_11 : je X 122 11 [l0, l1, some (.inr r), l3] S σ = je X 122 12 [l0, l1, some (.inr r), l3] (.inr r :: S) σ := je_aload (show jm_fe 122 11 = some (jk_aload 2 1) from rfl) rfl
theorem r_Run_copy_12 (hc : jm_cl σ.1 a = some 6) (h8 : S.length ≤ 8) : je X 122 12 L (.inr (.inl (some a)) :: S) σ = je_c X 122 15 L S (je X 70 0 [some (.inr (.inl (some a)))] [] σ) := je_callV (as := []) (S' := S) (show jm_fe 122 12 = some (jk_callV 70 0 6) from rfl) rfl hc h8
set_option maxRecDepth 20000 in
theorem r_Run_copy_15 : je X 122 15 L (.inl p :: S) σ = if p = 0 then je X 122 20 L S σ else je X 122 18 L S σ := je_if_eq (show jm_fe 122 15 = some (jk_if .eq 20) from rfl)
set_option maxRecDepth 20000 in
theorem r_Run_copy_18 : je X 122 18 L S σ = je X 122 19 L (.inl 2 :: S) σ := je_const (show jm_fe 122 18 = some (jk_const 2 1) from rfl)
set_option maxRecDepth 20000 in
theorem r_Run_copy_19 : je X 122 19 L [.inl p] σ = some (some (.inl p), σ) := je_iret (show jm_fe 122 19 = some (jk_iret) from rfl)
set_option maxRecDepth 20000 in
theorem r_Run_copy_20 : je X 122 20 [l0, l1, some (.inr r), l3] S σ = je X 122 21 [l0, l1, some (.inr r), l3] (.inr r :: S) σ := je_aload (show jm_fe 122 20 = some (jk_aload 2 1) from rfl) rfl
set_option maxRecDepth 20000 in
theorem r_Run_copy_21 : je X 122 21 [some (.inr r), l1, l2, l3] S σ = je X 122 22 [some (.inr r), l1, l2, l3] (.inr r :: S) σ := je_aload (show jm_fe 122 21 = some (jk_aload 0 1) from rfl) rfl
set_option maxRecDepth 20000 in
theorem r_Run_copy_22 : je X 122 22 [l0, some (.inl x), l2, l3] S σ = je X 122 23 [l0, some (.inl x), l2, l3] (.inl x :: S) σ := je_iload (show jm_fe 122 22 = some (jk_iload 1 1) from rfl) rfl
set_option maxRecDepth 20000 in
theorem r_Run_copy_23 (hc : jm_cl σ.1 a = some 6) (h8 : S.length ≤ 8) : je X 122 23 L (v0 :: .inr (.inl (some a)) :: S) σ = je_c X 122 26 L S (je X 71 0 [some (.inr (.inl (some a))), some v0] [] σ) := je_callV (as := [v0]) (S' := S) (show jm_fe 122 23 = some (jk_callV 71 1 6) from rfl) rfl hc h8
set_option maxRecDepth 20000 in
theorem r_Run_copy_26 : je X 122 26 [l0, l1, l2, some (.inl x)] S σ = je X 122 27 [l0, l1, l2, some (.inl x)] (.inl x :: S) σ := je_iload (show jm_fe 122 26 = some (jk_iload 3 1) from rfl) rfl
set_option maxRecDepth 20000 in
theorem r_Run_copy_27 (hc : jm_cl σ.1 a = some 6) (h8 : S.length ≤ 8) : je X 122 27 L (v1 :: v0 :: .inr (.inl (some a)) :: S) σ = je_c X 122 30 L S (je X 78 0 [some (.inr (.inl (some a))), some v0, some v1] [] σ) := je_callV (as := [v0, v1]) (S' := S) (show jm_fe 122 27 = some (jk_callV 78 2 6) from rfl) rfl hc h8
set_option maxRecDepth 20000 in
theorem r_Run_copy_30 : je X 122 30 L S σ = je X 122 31 L (.inl 0 :: S) σ := je_const (show jm_fe 122 30 = some (jk_const 0 1) from rfl)
set_option maxRecDepth 20000 in
theorem r_Run_copy_31 : je X 122 31 L [.inl p] σ = some (some (.inl p), σ) := je_iret (show jm_fe 122 31 = some (jk_iret) from rfl)
theorem r_Run_swap_0 : je X 123 0 [some (.inr r), l1, l2, l3, l4] S σ = je X 123 1 [some (.inr r), l1, l2, l3, l4] (.inr r :: S) σ := je_aload (show jm_fe 123 0 = some (jk_aload 0 1) from rfl) rfl
theorem r_Run_swap_1 : je X 123 1 L (.inr (.inl (some a)) :: S) σ = je_v X 123 4 L S σ (jm_gf σ.1 a 6 2) := je_getf (show jm_fe 123 1 = some (jk_getf 6 2) from rfl)
theorem r_Run_swap_4 : je X 123 4 L S σ = je X 123 5 L (.inl 1 :: S) σ := je_const (show jm_fe 123 4 = some (jk_const 1 1) from rfl)
theorem r_Run_swap_5 : je X 123 5 L (.inl q :: .inl p :: S) σ = je X 123 6 L (.inl (p - q) :: S) σ := je_bin (show jm_fe 123 5 = some (jb_isub) from rfl)
theorem r_Run_swap_6 : je X 123 6 [l0, l1, l2, l3, l4] (.inl x :: S) σ = je X 123 7 [l0, some (.inl x), l2, l3, l4] S σ := je_istore (show jm_fe 123 6 = some (jk_istore 1 1) from rfl) (Nat.le_of_ble_eq_true rfl)
theorem r_Run_swap_7 : je X 123 7 [some (.inr r), l1, l2, l3, l4] S σ = je X 123 8 [some (.inr r), l1, l2, l3, l4] (.inr r :: S) σ := je_aload (show jm_fe 123 7 = some (jk_aload 0 1) from rfl) rfl
theorem r_Run_swap_8 : je X 123 8 L (.inr (.inl (some a)) :: S) σ = je_v X 123 11 L S σ (jm_gf σ.1 a 6 2) := je_getf (show jm_fe 123 8 = some (jk_getf 6 2) from rfl)
theorem r_Run_swap_11 : je X 123 11 L S σ = je X 123 12 L (.inl 2 :: S) σ := je_const (show jm_fe 123 11 = some (jk_const 2 1) from rfl)
set_option maxRecDepth 20000 in
theorem r_Run_swap_12 : je X 123 12 L (.inl q :: .inl p :: S) σ = je X 123 13 L (.inl (p - q) :: S) σ := je_bin (show jm_fe 123 12 = some (jb_isub) from rfl)
set_option maxRecDepth 20000 in
theorem r_Run_swap_13 : je X 123 13 [l0, l1, l2, l3, l4] (.inl x :: S) σ = je X 123 14 [l0, l1, some (.inl x), l3, l4] S σ := je_istore (show jm_fe 123 13 = some (jk_istore 2 1) from rfl) (Nat.le_of_ble_eq_true rfl)
set_option maxRecDepth 20000 in
theorem r_Run_swap_14 : je X 123 14 [l0, l1, some (.inl x), l3, l4] S σ = je X 123 15 [l0, l1, some (.inl x), l3, l4] (.inl x :: S) σ := je_iload (show jm_fe 123 14 = some (jk_iload 2 1) from rfl) rfl
set_option maxRecDepth 20000 in
theorem r_Run_swap_15 : je X 123 15 L (.inl p :: S) σ = if 0 ≤ p then je X 123 20 L S σ else je X 123 18 L S σ := je_if_ge (show jm_fe 123 15 = some (jk_if .ge 20) from rfl)
set_option maxRecDepth 20000 in
theorem r_Run_swap_18 : je X 123 18 L S σ = je X 123 19 L (.inl 2 :: S) σ := je_const (show jm_fe 123 18 = some (jk_const 2 1) from rfl)
set_option maxRecDepth 20000 in
theorem r_Run_swap_19 : je X 123 19 L [.inl p] σ = some (some (.inl p), σ) := je_iret (show jm_fe 123 19 = some (jk_iret) from rfl)
set_option maxRecDepth 20000 in
theorem r_Run_swap_20 : je X 123 20 [some (.inr r), l1, l2, l3, l4] S σ = je X 123 21 [some (.inr r), l1, l2, l3, l4] (.inr r :: S) σ := je_aload (show jm_fe 123 20 = some (jk_aload 0 1) from rfl) rfl
set_option maxRecDepth 20000 in
theorem r_Run_swap_21 : je X 123 21 [l0, some (.inl x), l2, l3, l4] S σ = je X 123 22 [l0, some (.inl x), l2, l3, l4] (.inl x :: S) σ := je_iload (show jm_fe 123 21 = some (jk_iload 1 1) from rfl) rfl
set_option maxRecDepth 20000 in
theorem r_Run_swap_22 (hc : jm_cl σ.1 a = some 6) (h8 : S.length ≤ 8) : je X 123 22 L (v0 :: .inr (.inl (some a)) :: S) σ = je_c X 123 25 L S (je X 71 0 [some (.inr (.inl (some a))), some v0] [] σ) := je_callV (as := [v0]) (S' := S) (show jm_fe 123 22 = some (jk_callV 71 1 6) from rfl) rfl hc h8
set_option maxRecDepth 20000 in
theorem r_Run_swap_25 : je X 123 25 [l0, l1, l2, l3, l4] (.inl x :: S) σ = je X 123 26 [l0, l1, l2, some (.inl x), l4] S σ := je_istore (show jm_fe 123 25 = some (jk_istore 3 1) from rfl) (Nat.le_of_ble_eq_true rfl)
set_option maxRecDepth 20000 in
theorem r_Run_swap_26 : je X 123 26 [some (.inr r), l1, l2, l3, l4] S σ = je X 123 27 [some (.inr r), l1, l2, l3, l4] (.inr r :: S) σ := je_aload (show jm_fe 123 26 = some (jk_aload 0 1) from rfl) rfl
set_option maxRecDepth 20000 in
theorem r_Run_swap_27 : je X 123 27 [l0, some (.inl x), l2, l3, l4] S σ = je X 123 28 [l0, some (.inl x), l2, l3, l4] (.inl x :: S) σ := je_iload (show jm_fe 123 27 = some (jk_iload 1 1) from rfl) rfl
set_option maxRecDepth 20000 in
theorem r_Run_swap_28 (hc : jm_cl σ.1 a = some 6) (h8 : S.length ≤ 8) : je X 123 28 L (v0 :: .inr (.inl (some a)) :: S) σ = je_c X 123 31 L S (je X 72 0 [some (.inr (.inl (some a))), some v0] [] σ) := je_callV (as := [v0]) (S' := S) (show jm_fe 123 28 = some (jk_callV 72 1 6) from rfl) rfl hc h8
set_option maxRecDepth 20000 in
theorem r_Run_swap_31 : je X 123 31 [l0, l1, l2, l3, l4] (.inl x :: S) σ = je X 123 33 [l0, l1, l2, l3, some (.inl x)] S σ := je_istore (show jm_fe 123 31 = some (jk_istore 4 2) from rfl) (Nat.le_of_ble_eq_true rfl)
set_option maxRecDepth 20000 in
theorem r_Run_swap_33 : je X 123 33 [some (.inr r), l1, l2, l3, l4] S σ = je X 123 34 [some (.inr r), l1, l2, l3, l4] (.inr r :: S) σ := je_aload (show jm_fe 123 33 = some (jk_aload 0 1) from rfl) rfl
set_option maxRecDepth 20000 in
theorem r_Run_swap_34 : je X 123 34 [l0, some (.inl x), l2, l3, l4] S σ = je X 123 35 [l0, some (.inl x), l2, l3, l4] (.inl x :: S) σ := je_iload (show jm_fe 123 34 = some (jk_iload 1 1) from rfl) rfl
set_option maxRecDepth 20000 in
theorem r_Run_swap_35 : je X 123 35 [some (.inr r), l1, l2, l3, l4] S σ = je X 123 36 [some (.inr r), l1, l2, l3, l4] (.inr r :: S) σ := je_aload (show jm_fe 123 35 = some (jk_aload 0 1) from rfl) rfl
set_option maxRecDepth 20000 in
theorem r_Run_swap_36 : je X 123 36 [l0, l1, some (.inl x), l3, l4] S σ = je X 123 37 [l0, l1, some (.inl x), l3, l4] (.inl x :: S) σ := je_iload (show jm_fe 123 36 = some (jk_iload 2 1) from rfl) rfl
set_option maxRecDepth 20000 in
theorem r_Run_swap_37 (hc : jm_cl σ.1 a = some 6) (h8 : S.length ≤ 8) : je X 123 37 L (v0 :: .inr (.inl (some a)) :: S) σ = je_c X 123 40 L S (je X 71 0 [some (.inr (.inl (some a))), some v0] [] σ) := je_callV (as := [v0]) (S' := S) (show jm_fe 123 37 = some (jk_callV 71 1 6) from rfl) rfl hc h8
set_option maxRecDepth 20000 in
theorem r_Run_swap_40 : je X 123 40 [some (.inr r), l1, l2, l3, l4] S σ = je X 123 41 [some (.inr r), l1, l2, l3, l4] (.inr r :: S) σ := je_aload (show jm_fe 123 40 = some (jk_aload 0 1) from rfl) rfl
set_option maxRecDepth 20000 in
theorem r_Run_swap_41 : je X 123 41 [l0, l1, some (.inl x), l3, l4] S σ = je X 123 42 [l0, l1, some (.inl x), l3, l4] (.inl x :: S) σ := je_iload (show jm_fe 123 41 = some (jk_iload 2 1) from rfl) rfl
set_option maxRecDepth 20000 in
theorem r_Run_swap_42 (hc : jm_cl σ.1 a = some 6) (h8 : S.length ≤ 8) : je X 123 42 L (v0 :: .inr (.inl (some a)) :: S) σ = je_c X 123 45 L S (je X 72 0 [some (.inr (.inl (some a))), some v0] [] σ) := je_callV (as := [v0]) (S' := S) (show jm_fe 123 42 = some (jk_callV 72 1 6) from rfl) rfl hc h8
set_option maxRecDepth 20000 in
theorem r_Run_swap_45 (hc : jm_cl σ.1 a = some 6) (h8 : S.length ≤ 8) : je X 123 45 L (v2 :: v1 :: v0 :: .inr (.inl (some a)) :: S) σ = je_c X 123 48 L S (je X 79 0 [some (.inr (.inl (some a))), some v0, some v1, some v2] [] σ) := je_callV (as := [v0, v1, v2]) (S' := S) (show jm_fe 123 45 = some (jk_callV 79 3 6) from rfl) rfl hc h8
set_option maxRecDepth 20000 in
theorem r_Run_swap_48 : je X 123 48 [some (.inr r), l1, l2, l3, l4] S σ = je X 123 49 [some (.inr r), l1, l2, l3, l4] (.inr r :: S) σ := je_aload (show jm_fe 123 48 = some (jk_aload 0 1) from rfl) rfl
set_option maxRecDepth 20000 in
theorem r_Run_swap_49 : je X 123 49 [l0, l1, some (.inl x), l3, l4] S σ = je X 123 50 [l0, l1, some (.inl x), l3, l4] (.inl x :: S) σ := je_iload (show jm_fe 123 49 = some (jk_iload 2 1) from rfl) rfl
set_option maxRecDepth 20000 in
theorem r_Run_swap_50 : je X 123 50 [l0, l1, l2, some (.inl x), l4] S σ = je X 123 51 [l0, l1, l2, some (.inl x), l4] (.inl x :: S) σ := je_iload (show jm_fe 123 50 = some (jk_iload 3 1) from rfl) rfl
set_option maxRecDepth 20000 in
theorem r_Run_swap_51 : je X 123 51 [l0, l1, l2, l3, some (.inl x)] S σ = je X 123 53 [l0, l1, l2, l3, some (.inl x)] (.inl x :: S) σ := je_iload (show jm_fe 123 51 = some (jk_iload 4 2) from rfl) rfl
set_option maxRecDepth 20000 in
theorem r_Run_swap_53 (hc : jm_cl σ.1 a = some 6) (h8 : S.length ≤ 8) : je X 123 53 L (v2 :: v1 :: v0 :: .inr (.inl (some a)) :: S) σ = je_c X 123 56 L S (je X 79 0 [some (.inr (.inl (some a))), some v0, some v1, some v2] [] σ) := je_callV (as := [v0, v1, v2]) (S' := S) (show jm_fe 123 53 = some (jk_callV 79 3 6) from rfl) rfl hc h8
set_option maxRecDepth 20000 in
theorem r_Run_swap_56 : je X 123 56 L S σ = je X 123 57 L (.inl 0 :: S) σ := je_const (show jm_fe 123 56 = some (jk_const 0 1) from rfl)
set_option maxRecDepth 20000 in
theorem r_Run_swap_57 : je X 123 57 L [.inl p] σ = some (some (.inl p), σ) := je_iret (show jm_fe 123 57 = some (jk_iret) from rfl)
theorem r_Run_store_0 : je X 124 0 [some (.inr r), l1, l2] S σ = je X 124 1 [some (.inr r), l1, l2] (.inr r :: S) σ := je_aload (show jm_fe 124 0 = some (jk_aload 0 1) from rfl) rfl
theorem r_Run_store_1 : je X 124 1 L (.inr (.inl (some a)) :: S) σ = je_v X 124 4 L S σ (jm_gf σ.1 a 6 2) := je_getf (show jm_fe 124 1 = some (jk_getf 6 2) from rfl)
theorem r_Run_store_4 : je X 124 4 L S σ = je X 124 5 L (.inl 1 :: S) σ := je_const (show jm_fe 124 4 = some (jk_const 1 1) from rfl)
theorem r_Run_store_5 : je X 124 5 L (.inl q :: .inl p :: S) σ = if p < q then je X 124 17 L S σ else je X 124 8 L S σ := je_icmp_lt (show jm_fe 124 5 = some (jk_icmp .lt 17) from rfl)
theorem r_Run_store_8 : je X 124 8 [l0, some (.inr r), l2] S σ = je X 124 9 [l0, some (.inr r), l2] (.inr r :: S) σ := je_aload (show jm_fe 124 8 = some (jk_aload 1 1) from rfl) rfl
theorem r_Run_store_9 : je X 124 9 [l0, l1, some (.inl x)] S σ = je X 124 10 [l0, l1, some (.inl x)] (.inl x :: S) σ := je_iload (show jm_fe 124 9 = some (jk_iload 2 1) from rfl) rfl
theorem r_Run_store_10 (hc : jm_cl σ.1 a = some 6) (h8 : S.length ≤ 8) : je X 124 10 L (v0 :: .inr (.inl (some a)) :: S) σ = je_c X 124 13 L S (je X 72 0 [some (.inr (.inl (some a))), some v0] [] σ) := je_callV (as := [v0]) (S' := S) (show jm_fe 124 10 = some (jk_callV 72 1 6) from rfl) rfl hc h8
set_option maxRecDepth 20000 in
theorem r_Run_store_13 : je X 124 13 L S σ = je X 124 14 L (.inl (-1) :: S) σ := je_const (show jm_fe 124 13 = some (jk_const (-1) 1) from rfl)
set_option maxRecDepth 20000 in
theorem r_Run_store_14 : je X 124 14 L (.inl q :: .inl p :: S) σ = if p = q then je X 124 17 L S σ else je X 124 19 L S σ := je_icmp_ne (show jm_fe 124 14 = some (jk_icmp .ne 19) from rfl)
set_option maxRecDepth 20000 in
theorem r_Run_store_17 : je X 124 17 L S σ = je X 124 18 L (.inl 2 :: S) σ := je_const (show jm_fe 124 17 = some (jk_const 2 1) from rfl)
set_option maxRecDepth 20000 in
theorem r_Run_store_18 : je X 124 18 L [.inl p] σ = some (some (.inl p), σ) := je_iret (show jm_fe 124 18 = some (jk_iret) from rfl)
set_option maxRecDepth 20000 in
theorem r_Run_store_19 : je X 124 19 [l0, some (.inr r), l2] S σ = je X 124 20 [l0, some (.inr r), l2] (.inr r :: S) σ := je_aload (show jm_fe 124 19 = some (jk_aload 1 1) from rfl) rfl
set_option maxRecDepth 20000 in
theorem r_Run_store_20 : je X 124 20 [l0, l1, some (.inl x)] S σ = je X 124 21 [l0, l1, some (.inl x)] (.inl x :: S) σ := je_iload (show jm_fe 124 20 = some (jk_iload 2 1) from rfl) rfl
set_option maxRecDepth 20000 in
theorem r_Run_store_21 : je X 124 21 [some (.inr r), l1, l2] S σ = je X 124 22 [some (.inr r), l1, l2] (.inr r :: S) σ := je_aload (show jm_fe 124 21 = some (jk_aload 0 1) from rfl) rfl
set_option maxRecDepth 20000 in
theorem r_Run_store_22 : je X 124 22 L S σ = je X 124 23 L (.inl 0 :: S) σ := je_const (show jm_fe 124 22 = some (jk_const 0 1) from rfl)
set_option maxRecDepth 20000 in
theorem r_Run_store_23 (hc : jm_cl σ.1 a = some 6) (h8 : S.length ≤ 8) : je X 124 23 L (v0 :: .inr (.inl (some a)) :: S) σ = je_c X 124 26 L S (je X 73 0 [some (.inr (.inl (some a))), some v0] [] σ) := je_callV (as := [v0]) (S' := S) (show jm_fe 124 23 = some (jk_callV 73 1 6) from rfl) rfl hc h8
set_option maxRecDepth 20000 in
theorem r_Run_store_26 : je X 124 26 [some (.inr r), l1, l2] S σ = je X 124 27 [some (.inr r), l1, l2] (.inr r :: S) σ := je_aload (show jm_fe 124 26 = some (jk_aload 0 1) from rfl) rfl
set_option maxRecDepth 20000 in
theorem r_Run_store_27 : je X 124 27 [some (.inr r), l1, l2] S σ = je X 124 28 [some (.inr r), l1, l2] (.inr r :: S) σ := je_aload (show jm_fe 124 27 = some (jk_aload 0 1) from rfl) rfl
set_option maxRecDepth 20000 in
theorem r_Run_store_28 : je X 124 28 L (.inr (.inl (some a)) :: S) σ = je_v X 124 31 L S σ (jm_gf σ.1 a 6 2) := je_getf (show jm_fe 124 28 = some (jk_getf 6 2) from rfl)
set_option maxRecDepth 20000 in
theorem r_Run_store_31 : je X 124 31 L S σ = je X 124 32 L (.inl 1 :: S) σ := je_const (show jm_fe 124 31 = some (jk_const 1 1) from rfl)
set_option maxRecDepth 20000 in
theorem r_Run_store_32 : je X 124 32 L (.inl q :: .inl p :: S) σ = je X 124 33 L (.inl (p - q) :: S) σ := je_bin (show jm_fe 124 32 = some (jb_isub) from rfl)
set_option maxRecDepth 20000 in
theorem r_Run_store_33 (hc : jm_cl σ.1 a = some 6) (h8 : S.length ≤ 8) : je X 124 33 L (v0 :: .inr (.inl (some a)) :: S) σ = je_c X 124 36 L S (je X 72 0 [some (.inr (.inl (some a))), some v0] [] σ) := je_callV (as := [v0]) (S' := S) (show jm_fe 124 33 = some (jk_callV 72 1 6) from rfl) rfl hc h8
set_option maxRecDepth 20000 in
theorem r_Run_store_36 (hc : jm_cl σ.1 a = some 6) (h8 : S.length ≤ 8) : je X 124 36 L (v2 :: v1 :: v0 :: .inr (.inl (some a)) :: S) σ = je_c X 124 39 L S (je X 79 0 [some (.inr (.inl (some a))), some v0, some v1, some v2] [] σ) := je_callV (as := [v0, v1, v2]) (S' := S) (show jm_fe 124 36 = some (jk_callV 79 3 6) from rfl) rfl hc h8
set_option maxRecDepth 20000 in
theorem r_Run_store_39 : je X 124 39 [some (.inr r), l1, l2] S σ = je X 124 40 [some (.inr r), l1, l2] (.inr r :: S) σ := je_aload (show jm_fe 124 39 = some (jk_aload 0 1) from rfl) rfl
set_option maxRecDepth 20000 in
theorem r_Run_store_40 : je X 124 40 L S σ = je X 124 41 L (.inl 1 :: S) σ := je_const (show jm_fe 124 40 = some (jk_const 1 1) from rfl)
set_option maxRecDepth 20000 in
theorem r_Run_store_41 (hc : jm_cl σ.1 a = some 6) (h8 : S.length ≤ 8) : je X 124 41 L (v0 :: .inr (.inl (some a)) :: S) σ = je_c X 124 44 L S (je X 80 0 [some (.inr (.inl (some a))), some v0] [] σ) := je_callV (as := [v0]) (S' := S) (show jm_fe 124 41 = some (jk_callV 80 1 6) from rfl) rfl hc h8
set_option maxRecDepth 20000 in
theorem r_Run_store_44 : je X 124 44 L S σ = je X 124 45 L (.inl 0 :: S) σ := je_const (show jm_fe 124 44 = some (jk_const 0 1) from rfl)
set_option maxRecDepth 20000 in
theorem r_Run_store_45 : je X 124 45 L [.inl p] σ = some (some (.inl p), σ) := je_iret (show jm_fe 124 45 = some (jk_iret) from rfl)
theorem r_Run_jump_0 : je X 125 0 [some (.inr r), l1] S σ = je X 125 1 [some (.inr r), l1] (.inr r :: S) σ := je_aload (show jm_fe 125 0 = some (jk_aload 0 1) from rfl) rfl
theorem r_Run_jump_1 : je X 125 1 [l0, some (.inl x)] S σ = je X 125 2 [l0, some (.inl x)] (.inl x :: S) σ := je_iload (show jm_fe 125 1 = some (jk_iload 1 1) from rfl) rfl
theorem r_Run_jump_2 : je X 125 2 L (v :: .inr (.inl (some a)) :: S) σ = je_h X 125 5 L S σ.2 (jm_pf σ.1 a 5 3 0 v) := je_putf (show jm_fe 125 2 = some (jk_putf 5 3 0) from rfl)
theorem r_Run_jump_5 : je X 125 5 L S σ = je X 125 6 L (.inl 1 :: S) σ := je_const (show jm_fe 125 5 = some (jk_const 1 1) from rfl)
theorem r_Run_jump_6 : je X 125 6 L [.inl p] σ = some (some (.inl p), σ) := je_iret (show jm_fe 125 6 = some (jk_iret) from rfl)
theorem r_Run_jumpIf_0 : je X 126 0 [some (.inr r), l1, l2, l3] S σ = je X 126 1 [some (.inr r), l1, l2, l3] (.inr r :: S) σ := je_aload (show jm_fe 126 0 = some (jk_aload 0 1) from rfl) rfl
theorem r_Run_jumpIf_1 : je X 126 1 L (.inr (.inl (some a)) :: S) σ = je_v X 126 4 L S σ (jm_gf σ.1 a 5 0) := je_getf (show jm_fe 126 1 = some (jk_getf 5 0) from rfl)
theorem r_Run_jumpIf_4 : je X 126 4 L S σ = je X 126 5 L (.inl 0 :: S) σ := je_const (show jm_fe 126 4 = some (jk_const 0 1) from rfl)
theorem r_Run_jumpIf_5 (hc : jm_cl σ.1 a = some 6) (h8 : S.length ≤ 8) : je X 126 5 L (v0 :: .inr (.inl (some a)) :: S) σ = je_c X 126 8 L S (je X 74 0 [some (.inr (.inl (some a))), some v0] [] σ) := je_callV (as := [v0]) (S' := S) (show jm_fe 126 5 = some (jk_callV 74 1 6) from rfl) rfl hc h8
theorem r_Run_jumpIf_8 : je X 126 8 L (.inl p :: S) σ = if p = 0 then je X 126 11 L S σ else je X 126 13 L S σ := je_if_ne (show jm_fe 126 8 = some (jk_if .ne 13) from rfl)
set_option maxRecDepth 20000 in
theorem r_Run_jumpIf_11 : je X 126 11 L S σ = je X 126 12 L (.inl 2 :: S) σ := je_const (show jm_fe 126 11 = some (jk_const 2 1) from rfl)
set_option maxRecDepth 20000 in
theorem r_Run_jumpIf_12 : je X 126 12 L [.inl p] σ = some (some (.inl p), σ) := je_iret (show jm_fe 126 12 = some (jk_iret) from rfl)
set_option maxRecDepth 20000 in
theorem r_Run_jumpIf_13 : je X 126 13 [some (.inr r), l1, l2, l3] S σ = je X 126 14 [some (.inr r), l1, l2, l3] (.inr r :: S) σ := je_aload (show jm_fe 126 13 = some (jk_aload 0 1) from rfl) rfl
set_option maxRecDepth 20000 in
theorem r_Run_jumpIf_14 : je X 126 14 L (.inr (.inl (some a)) :: S) σ = je_v X 126 17 L S σ (jm_gf σ.1 a 5 0) := je_getf (show jm_fe 126 14 = some (jk_getf 5 0) from rfl)
set_option maxRecDepth 20000 in
theorem r_Run_jumpIf_17 : je X 126 17 L S σ = je X 126 18 L (.inl 0 :: S) σ := je_const (show jm_fe 126 17 = some (jk_const 0 1) from rfl)
set_option maxRecDepth 20000 in
theorem r_Run_jumpIf_18 (hc : jm_cl σ.1 a = some 6) (h8 : S.length ≤ 8) : je X 126 18 L (v0 :: .inr (.inl (some a)) :: S) σ = je_c X 126 21 L S (je X 73 0 [some (.inr (.inl (some a))), some v0] [] σ) := je_callV (as := [v0]) (S' := S) (show jm_fe 126 18 = some (jk_callV 73 1 6) from rfl) rfl hc h8
set_option maxRecDepth 20000 in
theorem r_Run_jumpIf_21 : je X 126 21 L (.inl p :: S) σ = if p = 0 then je X 126 28 L S σ else je X 126 24 L S σ := je_if_eq (show jm_fe 126 21 = some (jk_if .eq 28) from rfl)
set_option maxRecDepth 20000 in
theorem r_Run_jumpIf_24 : je X 126 24 L S σ = je X 126 25 L (.inl 1 :: S) σ := je_const (show jm_fe 126 24 = some (jk_const 1 1) from rfl)
set_option maxRecDepth 20000 in
theorem r_Run_jumpIf_25 : je X 126 25 L S σ = je X 126 29 L S σ := je_goto (show jm_fe 126 25 = some (jk_goto 29) from rfl)
set_option maxRecDepth 20000 in
theorem r_Run_jumpIf_28 : je X 126 28 L S σ = je X 126 29 L (.inl 0 :: S) σ := je_const (show jm_fe 126 28 = some (jk_const 0 1) from rfl)
set_option maxRecDepth 20000 in
theorem r_Run_jumpIf_29 : je X 126 29 [l0, l1, l2, l3] (.inl x :: S) σ = je X 126 30 [l0, l1, l2, some (.inl x)] S σ := je_istore (show jm_fe 126 29 = some (jk_istore 3 1) from rfl) (Nat.le_of_ble_eq_true rfl)
set_option maxRecDepth 20000 in
theorem r_Run_jumpIf_30 : je X 126 30 [some (.inr r), l1, l2, l3] S σ = je X 126 31 [some (.inr r), l1, l2, l3] (.inr r :: S) σ := je_aload (show jm_fe 126 30 = some (jk_aload 0 1) from rfl) rfl
set_option maxRecDepth 20000 in
theorem r_Run_jumpIf_31 : je X 126 31 L (.inr (.inl (some a)) :: S) σ = je_v X 126 34 L S σ (jm_gf σ.1 a 5 0) := je_getf (show jm_fe 126 31 = some (jk_getf 5 0) from rfl)
set_option maxRecDepth 20000 in
theorem r_Run_jumpIf_34 : je X 126 34 L S σ = je X 126 35 L (.inl 1 :: S) σ := je_const (show jm_fe 126 34 = some (jk_const 1 1) from rfl)
set_option maxRecDepth 20000 in
theorem r_Run_jumpIf_35 (hc : jm_cl σ.1 a = some 6) (h8 : S.length ≤ 8) : je X 126 35 L (v0 :: .inr (.inl (some a)) :: S) σ = je_c X 126 38 L S (je X 80 0 [some (.inr (.inl (some a))), some v0] [] σ) := je_callV (as := [v0]) (S' := S) (show jm_fe 126 35 = some (jk_callV 80 1 6) from rfl) rfl hc h8
set_option maxRecDepth 20000 in
theorem r_Run_jumpIf_38 : je X 126 38 [l0, l1, l2, some (.inl x)] S σ = je X 126 39 [l0, l1, l2, some (.inl x)] (.inl x :: S) σ := je_iload (show jm_fe 126 38 = some (jk_iload 3 1) from rfl) rfl
set_option maxRecDepth 20000 in
theorem r_Run_jumpIf_39 : je X 126 39 [l0, l1, some (.inl x), l3] S σ = je X 126 40 [l0, l1, some (.inl x), l3] (.inl x :: S) σ := je_iload (show jm_fe 126 39 = some (jk_iload 2 1) from rfl) rfl
set_option maxRecDepth 20000 in
theorem r_Run_jumpIf_40 : je X 126 40 L (.inl q :: .inl p :: S) σ = if p = q then je X 126 43 L S σ else je X 126 51 L S σ := je_icmp_ne (show jm_fe 126 40 = some (jk_icmp .ne 51) from rfl)
set_option maxRecDepth 20000 in
theorem r_Run_jumpIf_43 : je X 126 43 [some (.inr r), l1, l2, l3] S σ = je X 126 44 [some (.inr r), l1, l2, l3] (.inr r :: S) σ := je_aload (show jm_fe 126 43 = some (jk_aload 0 1) from rfl) rfl
set_option maxRecDepth 20000 in
theorem r_Run_jumpIf_44 : je X 126 44 [l0, some (.inl x), l2, l3] S σ = je X 126 45 [l0, some (.inl x), l2, l3] (.inl x :: S) σ := je_iload (show jm_fe 126 44 = some (jk_iload 1 1) from rfl) rfl
set_option maxRecDepth 20000 in
theorem r_Run_jumpIf_45 (h8 : S.length ≤ 8) : je X 126 45 L (v1 :: v0 :: S) σ = je_c X 126 48 L S (je X 125 0 [some v0, some v1] [] σ) := je_callS (as := [v0, v1]) (S' := S) (show jm_fe 126 45 = some (jk_callS 125 2) from rfl) rfl h8
set_option maxRecDepth 20000 in
theorem r_Run_jumpIf_48 : je X 126 48 L S σ = je X 126 52 L S σ := je_goto (show jm_fe 126 48 = some (jk_goto 52) from rfl)
set_option maxRecDepth 20000 in
theorem r_Run_jumpIf_51 : je X 126 51 L S σ = je X 126 52 L (.inl 0 :: S) σ := je_const (show jm_fe 126 51 = some (jk_const 0 1) from rfl)
set_option maxRecDepth 20000 in
theorem r_Run_jumpIf_52 : je X 126 52 L [.inl p] σ = some (some (.inl p), σ) := je_iret (show jm_fe 126 52 = some (jk_iret) from rfl)
theorem r_Run_calculate_0 : je X 127 0 [l0, some (.inr r), l2, l3, l4] S σ = je X 127 1 [l0, some (.inr r), l2, l3, l4] (.inr r :: S) σ := je_aload (show jm_fe 127 0 = some (jk_aload 1 1) from rfl) rfl
theorem r_Run_calculate_1 : je X 127 1 L S σ = je X 127 2 L (.inl 2 :: S) σ := je_const (show jm_fe 127 1 = some (jk_const 2 1) from rfl)
theorem r_Run_calculate_2 (hc : jm_cl σ.1 a = some 6) (h8 : S.length ≤ 8) : je X 127 2 L (v0 :: .inr (.inl (some a)) :: S) σ = je_c X 127 5 L S (je X 76 0 [some (.inr (.inl (some a))), some v0, none] [] σ) := je_callV (as := [v0]) (S' := S) (show jm_fe 127 2 = some (jk_callV 76 1 6) from rfl) rfl hc h8
theorem r_Run_calculate_5 : je X 127 5 L (.inl p :: S) σ = if p = 0 then je X 127 8 L S σ else je X 127 10 L S σ := je_if_ne (show jm_fe 127 5 = some (jk_if .ne 10) from rfl)
set_option maxRecDepth 20000 in
theorem r_Run_calculate_8 : je X 127 8 L S σ = je X 127 9 L (.inl 2 :: S) σ := je_const (show jm_fe 127 8 = some (jk_const 2 1) from rfl)
set_option maxRecDepth 20000 in
theorem r_Run_calculate_9 : je X 127 9 L [.inl p] σ = some (some (.inl p), σ) := je_iret (show jm_fe 127 9 = some (jk_iret) from rfl)
set_option maxRecDepth 20000 in
theorem r_Run_calculate_10 : je X 127 10 [l0, some (.inr r), l2, l3, l4] S σ = je X 127 11 [l0, some (.inr r), l2, l3, l4] (.inr r :: S) σ := je_aload (show jm_fe 127 10 = some (jk_aload 1 1) from rfl) rfl
set_option maxRecDepth 20000 in
theorem r_Run_calculate_11 : je X 127 11 L S σ = je X 127 12 L (.inl 0 :: S) σ := je_const (show jm_fe 127 11 = some (jk_const 0 1) from rfl)
set_option maxRecDepth 20000 in
theorem r_Run_calculate_12 (hc : jm_cl σ.1 a = some 6) (h8 : S.length ≤ 8) : je X 127 12 L (v0 :: .inr (.inl (some a)) :: S) σ = je_c X 127 15 L S (je X 73 0 [some (.inr (.inl (some a))), some v0] [] σ) := je_callV (as := [v0]) (S' := S) (show jm_fe 127 12 = some (jk_callV 73 1 6) from rfl) rfl hc h8
set_option maxRecDepth 20000 in
theorem r_Run_calculate_15 : je X 127 15 [l0, l1, l2, l3, l4] (.inl x :: S) σ = je X 127 16 [l0, l1, l2, some (.inl x), l4] S σ := je_istore (show jm_fe 127 15 = some (jk_istore 3 1) from rfl) (Nat.le_of_ble_eq_true rfl)
set_option maxRecDepth 20000 in
theorem r_Run_calculate_16 : je X 127 16 [l0, some (.inr r), l2, l3, l4] S σ = je X 127 17 [l0, some (.inr r), l2, l3, l4] (.inr r :: S) σ := je_aload (show jm_fe 127 16 = some (jk_aload 1 1) from rfl) rfl
set_option maxRecDepth 20000 in
theorem r_Run_calculate_17 : je X 127 17 L S σ = je X 127 18 L (.inl 1 :: S) σ := je_const (show jm_fe 127 17 = some (jk_const 1 1) from rfl)
set_option maxRecDepth 20000 in
theorem r_Run_calculate_18 (hc : jm_cl σ.1 a = some 6) (h8 : S.length ≤ 8) : je X 127 18 L (v0 :: .inr (.inl (some a)) :: S) σ = je_c X 127 21 L S (je X 73 0 [some (.inr (.inl (some a))), some v0] [] σ) := je_callV (as := [v0]) (S' := S) (show jm_fe 127 18 = some (jk_callV 73 1 6) from rfl) rfl hc h8
set_option maxRecDepth 20000 in
theorem r_Run_calculate_21 : je X 127 21 [l0, l1, l2, l3, l4] (.inl x :: S) σ = je X 127 23 [l0, l1, l2, l3, some (.inl x)] S σ := je_istore (show jm_fe 127 21 = some (jk_istore 4 2) from rfl) (Nat.le_of_ble_eq_true rfl)
set_option maxRecDepth 20000 in
theorem r_Run_calculate_23 : je X 127 23 [l0, l1, l2, some (.inl x), l4] S σ = je X 127 24 [l0, l1, l2, some (.inl x), l4] (.inl x :: S) σ := je_iload (show jm_fe 127 23 = some (jk_iload 3 1) from rfl) rfl
set_option maxRecDepth 20000 in
theorem r_Run_calculate_24 : je X 127 24 L (.inl p :: S) σ = if p = 0 then je X 127 27 L S σ else je X 127 45 L S σ := je_if_ne (show jm_fe 127 24 = some (jk_if .ne 45) from rfl)
set_option maxRecDepth 20000 in
theorem r_Run_calculate_27 : je X 127 27 [l0, l1, some (.inl x), l3, l4] S σ = je X 127 28 [l0, l1, some (.inl x), l3, l4] (.inl x :: S) σ := je_iload (show jm_fe 127 27 = some (jk_iload 2 1) from rfl) rfl
set_option maxRecDepth 20000 in
theorem r_Run_calculate_28 : je X 127 28 L S σ = je X 127 30 L (.inl 9 :: S) σ := je_const (show jm_fe 127 28 = some (jk_const (9) 2) from rfl)
set_option maxRecDepth 20000 in
theorem r_Run_calculate_30 : je X 127 30 L (.inl q :: .inl p :: S) σ = if p = q then je X 127 39 L S σ else je X 127 33 L S σ := je_icmp_eq (show jm_fe 127 30 = some (jk_icmp .eq 39) from rfl)
set_option maxRecDepth 20000 in
theorem r_Run_calculate_33 : je X 127 33 [l0, l1, some (.inl x), l3, l4] S σ = je X 127 34 [l0, l1, some (.inl x), l3, l4] (.inl x :: S) σ := je_iload (show jm_fe 127 33 = some (jk_iload 2 1) from rfl) rfl
set_option maxRecDepth 20000 in
theorem r_Run_calculate_34 : je X 127 34 L S σ = je X 127 36 L (.inl 10 :: S) σ := je_const (show jm_fe 127 34 = some (jk_const (10) 2) from rfl)
set_option maxRecDepth 20000 in
theorem r_Run_calculate_36 : je X 127 36 L (.inl q :: .inl p :: S) σ = if p = q then je X 127 39 L S σ else je X 127 45 L S σ := je_icmp_ne (show jm_fe 127 36 = some (jk_icmp .ne 45) from rfl)
set_option maxRecDepth 20000 in
theorem r_Run_calculate_39 : je X 127 39 [some (.inr r), l1, l2, l3, l4] S σ = je X 127 40 [some (.inr r), l1, l2, l3, l4] (.inr r :: S) σ := je_aload (show jm_fe 127 39 = some (jk_aload 0 1) from rfl) rfl
set_option maxRecDepth 20000 in
theorem r_Run_calculate_40 : je X 127 40 L S σ = je X 127 41 L (.inl 1 :: S) σ := je_const (show jm_fe 127 40 = some (jk_const 1 1) from rfl)
set_option maxRecDepth 20000 in
theorem r_Run_calculate_41 (hc : jm_cl σ.1 a = some 4) (h8 : S.length ≤ 8) : je X 127 41 L (v0 :: .inr (.inl (some a)) :: S) σ = je_c X 127 44 L S (je X 137 0 [some (.inr (.inl (some a))), some v0] [] σ) := je_callV (as := [v0]) (S' := S) (show jm_fe 127 41 = some (jk_callV 137 1 4) from rfl) rfl hc h8
set_option maxRecDepth 20000 in
theorem r_Run_calculate_44 : je X 127 44 L [.inl p] σ = some (some (.inl p), σ) := je_iret (show jm_fe 127 44 = some (jk_iret) from rfl)
set_option maxRecDepth 20000 in
theorem r_Run_calculate_45 : je X 127 45 [l0, some (.inr r), l2, l3, l4] S σ = je X 127 46 [l0, some (.inr r), l2, l3, l4] (.inr r :: S) σ := je_aload (show jm_fe 127 45 = some (jk_aload 1 1) from rfl) rfl
set_option maxRecDepth 20000 in
theorem r_Run_calculate_46 : je X 127 46 L S σ = je X 127 47 L (.inl 2 :: S) σ := je_const (show jm_fe 127 46 = some (jk_const 2 1) from rfl)
set_option maxRecDepth 20000 in
theorem r_Run_calculate_47 : je X 127 47 [l0, l1, some (.inl x), l3, l4] S σ = je X 127 48 [l0, l1, some (.inl x), l3, l4] (.inl x :: S) σ := je_iload (show jm_fe 127 47 = some (jk_iload 2 1) from rfl) rfl
set_option maxRecDepth 20000 in
theorem r_Run_calculate_48 : je X 127 48 [l0, l1, l2, l3, some (.inl x)] S σ = je X 127 50 [l0, l1, l2, l3, some (.inl x)] (.inl x :: S) σ := je_iload (show jm_fe 127 48 = some (jk_iload 4 2) from rfl) rfl
set_option maxRecDepth 20000 in
theorem r_Run_calculate_50 : je X 127 50 [l0, l1, l2, some (.inl x), l4] S σ = je X 127 51 [l0, l1, l2, some (.inl x), l4] (.inl x :: S) σ := je_iload (show jm_fe 127 50 = some (jk_iload 3 1) from rfl) rfl
set_option maxRecDepth 20000 in
theorem r_Run_calculate_51 (h8 : S.length ≤ 8) : je X 127 51 L (v2 :: v1 :: v0 :: S) σ = je_c X 127 54 L S (je X 128 0 [some v0, some v1, some v2] [] σ) := je_callS (as := [v0, v1, v2]) (S' := S) (show jm_fe 127 51 = some (jk_callS 128 3) from rfl) rfl h8
set_option maxRecDepth 20000 in
theorem r_Run_calculate_54 (hc : jm_cl σ.1 a = some 6) (h8 : S.length ≤ 8) : je X 127 54 L (v1 :: v0 :: .inr (.inl (some a)) :: S) σ = je_c X 127 57 L S (je X 81 0 [some (.inr (.inl (some a))), some v0, some v1] [] σ) := je_callV (as := [v0, v1]) (S' := S) (show jm_fe 127 54 = some (jk_callV 81 2 6) from rfl) rfl hc h8
set_option maxRecDepth 20000 in
theorem r_Run_calculate_57 : je X 127 57 L S σ = je X 127 58 L (.inl 0 :: S) σ := je_const (show jm_fe 127 57 = some (jk_const 0 1) from rfl)
set_option maxRecDepth 20000 in
theorem r_Run_calculate_58 : je X 127 58 L [.inl p] σ = some (some (.inl p), σ) := je_iret (show jm_fe 127 58 = some (jk_iret) from rfl)
end JR
