section JR
variable {X : jm_X} {L : jm_L} {S : List jm_V} {σ : jm_S} {l0 l1 l2 l3 l4 l5 l6 l7 : Option jm_V} {x p q : Int32} {a : Nat} {r : Option Nat ⊕ Unit} {o : Option Nat} {u : Unit} {v w v0 v1 v2 v3 v4 v5 : jm_V}
theorem r_S_look_0 : je X 17 0 [l0, some (.inl x)] S σ = je X 17 1 [l0, some (.inl x)] (.inl x :: S) σ := je_iload (show jm_fe 17 0 = some (jk_iload 1 1) from rfl) rfl
theorem r_S_look_1 : je X 17 1 L (.inl p :: S) σ = je X 17 (jm_sw [(0, 56), (1, 64), (2, 72), (3, 80), (4, 91), (5, 99), (6, 107), (7, 118), (8, 129), (9, 137)] 145 p) L S σ := je_sw (show jm_fe 17 1 = some (jk_sw [(0, 56), (1, 64), (2, 72), (3, 80), (4, 91), (5, 99), (6, 107), (7, 118), (8, 129), (9, 137)] 145) from rfl)
theorem r_S_look_56 : je X 17 56 [some (.inr r), l1] S σ = je X 17 57 [some (.inr r), l1] (.inr r :: S) σ := je_aload (show jm_fe 17 56 = some (jk_aload 0 1) from rfl) rfl
theorem r_S_look_57 : je X 17 57 L (.inr (.inl (some a)) :: S) σ = je_v X 17 60 L S σ (jm_gf σ.1 a 0 2) := je_getf (show jm_fe 17 57 = some (jk_getf 0 2) from rfl)
theorem r_S_look_60 : je X 17 60 L (.inr (.inl (some a)) :: S) σ = je_v X 17 63 L S σ (jm_gf σ.1 a 4 9) := je_getf (show jm_fe 17 60 = some (jk_getf 4 9) from rfl)
theorem r_S_look_63 : je X 17 63 L [.inl p] σ = some (some (.inl p), σ) := je_iret (show jm_fe 17 63 = some (jk_iret) from rfl)
theorem r_S_look_64 : je X 17 64 [some (.inr r), l1] S σ = je X 17 65 [some (.inr r), l1] (.inr r :: S) σ := je_aload (show jm_fe 17 64 = some (jk_aload 0 1) from rfl) rfl
theorem r_S_look_65 : je X 17 65 L (.inr (.inl (some a)) :: S) σ = je_v X 17 68 L S σ (jm_gf σ.1 a 0 2) := je_getf (show jm_fe 17 65 = some (jk_getf 0 2) from rfl)
theorem r_S_look_68 : je X 17 68 L (.inr (.inl (some a)) :: S) σ = je_v X 17 71 L S σ (jm_gf σ.1 a 4 10) := je_getf (show jm_fe 17 68 = some (jk_getf 4 10) from rfl)
theorem r_S_look_71 : je X 17 71 L [.inl p] σ = some (some (.inl p), σ) := je_iret (show jm_fe 17 71 = some (jk_iret) from rfl)
theorem r_S_look_72 : je X 17 72 [some (.inr r), l1] S σ = je X 17 73 [some (.inr r), l1] (.inr r :: S) σ := je_aload (show jm_fe 17 72 = some (jk_aload 0 1) from rfl) rfl
theorem r_S_look_73 : je X 17 73 L (.inr (.inl (some a)) :: S) σ = je_v X 17 76 L S σ (jm_gf σ.1 a 0 2) := je_getf (show jm_fe 17 73 = some (jk_getf 0 2) from rfl)
theorem r_S_look_76 : je X 17 76 L (.inr (.inl (some a)) :: S) σ = je_v X 17 79 L S σ (jm_gf σ.1 a 4 8) := je_getf (show jm_fe 17 76 = some (jk_getf 4 8) from rfl)
theorem r_S_look_79 : je X 17 79 L [.inl p] σ = some (some (.inl p), σ) := je_iret (show jm_fe 17 79 = some (jk_iret) from rfl)
theorem r_S_look_80 : je X 17 80 [some (.inr r), l1] S σ = je X 17 81 [some (.inr r), l1] (.inr r :: S) σ := je_aload (show jm_fe 17 80 = some (jk_aload 0 1) from rfl) rfl
theorem r_S_look_81 : je X 17 81 L (.inr (.inl (some a)) :: S) σ = je_v X 17 84 L S σ (jm_gf σ.1 a 0 2) := je_getf (show jm_fe 17 81 = some (jk_getf 0 2) from rfl)
theorem r_S_look_84 : je X 17 84 L (.inr (.inl (some a)) :: S) σ = je_v X 17 87 L S σ (jm_gf σ.1 a 4 4) := je_getf (show jm_fe 17 84 = some (jk_getf 4 4) from rfl)
theorem r_S_look_87 : je X 17 87 L (.inr (.inl (some a)) :: S) σ = je_v X 17 90 L S σ (jm_gf σ.1 a 8 1) := je_getf (show jm_fe 17 87 = some (jk_getf 8 1) from rfl)
theorem r_S_look_90 : je X 17 90 L [.inl p] σ = some (some (.inl p), σ) := je_iret (show jm_fe 17 90 = some (jk_iret) from rfl)
theorem r_S_look_91 : je X 17 91 [some (.inr r), l1] S σ = je X 17 92 [some (.inr r), l1] (.inr r :: S) σ := je_aload (show jm_fe 17 91 = some (jk_aload 0 1) from rfl) rfl
theorem r_S_look_92 : je X 17 92 L (.inr (.inl (some a)) :: S) σ = je_v X 17 95 L S σ (jm_gf σ.1 a 0 2) := je_getf (show jm_fe 17 92 = some (jk_getf 0 2) from rfl)
theorem r_S_look_95 : je X 17 95 L (.inr (.inl (some a)) :: S) σ = je_v X 17 98 L S σ (jm_gf σ.1 a 4 6) := je_getf (show jm_fe 17 95 = some (jk_getf 4 6) from rfl)
theorem r_S_look_98 : je X 17 98 L [.inl p] σ = some (some (.inl p), σ) := je_iret (show jm_fe 17 98 = some (jk_iret) from rfl)
theorem r_S_look_99 : je X 17 99 [some (.inr r), l1] S σ = je X 17 100 [some (.inr r), l1] (.inr r :: S) σ := je_aload (show jm_fe 17 99 = some (jk_aload 0 1) from rfl) rfl
theorem r_S_look_100 : je X 17 100 L (.inr (.inl (some a)) :: S) σ = je_v X 17 103 L S σ (jm_gf σ.1 a 0 2) := je_getf (show jm_fe 17 100 = some (jk_getf 0 2) from rfl)
theorem r_S_look_103 : je X 17 103 L (.inr (.inl (some a)) :: S) σ = je_v X 17 106 L S σ (jm_gf σ.1 a 4 7) := je_getf (show jm_fe 17 103 = some (jk_getf 4 7) from rfl)
theorem r_S_look_106 : je X 17 106 L [.inl p] σ = some (some (.inl p), σ) := je_iret (show jm_fe 17 106 = some (jk_iret) from rfl)
theorem r_S_look_107 : je X 17 107 [some (.inr r), l1] S σ = je X 17 108 [some (.inr r), l1] (.inr r :: S) σ := je_aload (show jm_fe 17 107 = some (jk_aload 0 1) from rfl) rfl
theorem r_S_look_108 : je X 17 108 L (.inr (.inl (some a)) :: S) σ = je_v X 17 111 L S σ (jm_gf σ.1 a 0 2) := je_getf (show jm_fe 17 108 = some (jk_getf 0 2) from rfl)
theorem r_S_look_111 : je X 17 111 L (.inr (.inl (some a)) :: S) σ = je_v X 17 114 L S σ (jm_gf σ.1 a 4 3) := je_getf (show jm_fe 17 111 = some (jk_getf 4 3) from rfl)
theorem r_S_look_114 : je X 17 114 L (.inr (.inl (some a)) :: S) σ = je_v X 17 117 L S σ (jm_gf σ.1 a 7 3) := je_getf (show jm_fe 17 114 = some (jk_getf 7 3) from rfl)
theorem r_S_look_117 : je X 17 117 L [.inl p] σ = some (some (.inl p), σ) := je_iret (show jm_fe 17 117 = some (jk_iret) from rfl)
theorem r_S_look_118 : je X 17 118 [some (.inr r), l1] S σ = je X 17 119 [some (.inr r), l1] (.inr r :: S) σ := je_aload (show jm_fe 17 118 = some (jk_aload 0 1) from rfl) rfl
theorem r_S_look_119 : je X 17 119 L (.inr (.inl (some a)) :: S) σ = je_v X 17 122 L S σ (jm_gf σ.1 a 0 2) := je_getf (show jm_fe 17 119 = some (jk_getf 0 2) from rfl)
theorem r_S_look_122 : je X 17 122 L (.inr (.inl (some a)) :: S) σ = je_v X 17 125 L S σ (jm_gf σ.1 a 4 3) := je_getf (show jm_fe 17 122 = some (jk_getf 4 3) from rfl)
theorem r_S_look_125 : je X 17 125 L (.inr (.inl (some a)) :: S) σ = je_v X 17 128 L S σ (jm_gf σ.1 a 7 4) := je_getf (show jm_fe 17 125 = some (jk_getf 7 4) from rfl)
theorem r_S_look_128 : je X 17 128 L [.inl p] σ = some (some (.inl p), σ) := je_iret (show jm_fe 17 128 = some (jk_iret) from rfl)
theorem r_S_look_129 : je X 17 129 [some (.inr r), l1] S σ = je X 17 130 [some (.inr r), l1] (.inr r :: S) σ := je_aload (show jm_fe 17 129 = some (jk_aload 0 1) from rfl) rfl
theorem r_S_look_130 : je X 17 130 L (.inr (.inl (some a)) :: S) σ = je_v X 17 133 L S σ (jm_gf σ.1 a 0 0) := je_getf (show jm_fe 17 130 = some (jk_getf 0 0) from rfl)
theorem r_S_look_133 : je X 17 133 L (.inr (.inl (some a)) :: S) σ = je_v X 17 136 L S σ (jm_gf σ.1 a 1 1) := je_getf (show jm_fe 17 133 = some (jk_getf 1 1) from rfl)
theorem r_S_look_136 : je X 17 136 L [.inl p] σ = some (some (.inl p), σ) := je_iret (show jm_fe 17 136 = some (jk_iret) from rfl)
theorem r_S_look_137 : je X 17 137 [some (.inr r), l1] S σ = je X 17 138 [some (.inr r), l1] (.inr r :: S) σ := je_aload (show jm_fe 17 137 = some (jk_aload 0 1) from rfl) rfl
theorem r_S_look_138 : je X 17 138 L (.inr (.inl (some a)) :: S) σ = je_v X 17 141 L S σ (jm_gf σ.1 a 0 1) := je_getf (show jm_fe 17 138 = some (jk_getf 0 1) from rfl)
theorem r_S_look_141 : je X 17 141 L (.inr (.inl (some a)) :: S) σ = je_v X 17 144 L S σ (jm_gf σ.1 a 3 1) := je_getf (show jm_fe 17 141 = some (jk_getf 3 1) from rfl)
theorem r_S_look_144 : je X 17 144 L [.inl p] σ = some (some (.inl p), σ) := je_iret (show jm_fe 17 144 = some (jk_iret) from rfl)
theorem r_S_look_145 : je X 17 145 L S σ = je X 17 146 L (.inl (-1) :: S) σ := je_const (show jm_fe 17 145 = some (jk_const (-1) 1) from rfl)
theorem r_S_look_146 : je X 17 146 L [.inl p] σ = some (some (.inl p), σ) := je_iret (show jm_fe 17 146 = some (jk_iret) from rfl)
theorem r_S_dropRunIf_0 : je X 18 0 [l0, some (.inl x)] S σ = je X 18 1 [l0, some (.inl x)] (.inl x :: S) σ := je_iload (show jm_fe 18 0 = some (jk_iload 1 1) from rfl) rfl
theorem r_S_dropRunIf_1 : je X 18 1 L (.inl p :: S) σ = if p = 0 then je X 18 11 L S σ else je X 18 4 L S σ := je_if_eq (show jm_fe 18 1 = some (jk_if .eq 11) from rfl)
theorem r_S_dropRunIf_4 : je X 18 4 [some (.inr r), l1] S σ = je X 18 5 [some (.inr r), l1] (.inr r :: S) σ := je_aload (show jm_fe 18 4 = some (jk_aload 0 1) from rfl) rfl
theorem r_S_dropRunIf_5 : je X 18 5 L (.inr (.inl (some a)) :: S) σ = je_v X 18 8 L S σ (jm_gf σ.1 a 0 2) := je_getf (show jm_fe 18 5 = some (jk_getf 0 2) from rfl)
theorem r_S_dropRunIf_8 (hc : jm_cl σ.1 a = some 4) (h8 : S.length ≤ 8) : je X 18 8 L (.inr (.inl (some a)) :: S) σ = je_c X 18 11 L S (je X 113 0 [some (.inr (.inl (some a)))] [] σ) := je_callV (as := []) (S' := S) (show jm_fe 18 8 = some (jk_callV 113 0 4) from rfl) rfl hc h8
theorem r_S_dropRunIf_11 : je X 18 11 [l0, some (.inl x)] S σ = je X 18 12 [l0, some (.inl x)] (.inl x :: S) σ := je_iload (show jm_fe 18 11 = some (jk_iload 1 1) from rfl) rfl
theorem r_S_dropRunIf_12 (hx : p = 0 ∨ p = 1) : je X 18 12 L [.inl p] σ = some (some (.inl p), σ) := je_zret (show jm_fe 18 12 = some (jk_zret) from rfl) hx
theorem r_M_isFunction_0 : je X 20 0 [l0, some (.inl x)] S σ = je X 20 1 [l0, some (.inl x)] (.inl x :: S) σ := je_iload (show jm_fe 20 0 = some (jk_iload 1 1) from rfl) rfl
theorem r_M_isFunction_1 : je X 20 1 L (.inl p :: S) σ = if p < 0 then je X 20 16 L S σ else je X 20 4 L S σ := je_if_lt (show jm_fe 20 1 = some (jk_if .lt 16) from rfl)
theorem r_M_isFunction_4 : je X 20 4 [l0, some (.inl x)] S σ = je X 20 5 [l0, some (.inl x)] (.inl x :: S) σ := je_iload (show jm_fe 20 4 = some (jk_iload 1 1) from rfl) rfl
theorem r_M_isFunction_5 : je X 20 5 [some (.inr r), l1] S σ = je X 20 6 [some (.inr r), l1] (.inr r :: S) σ := je_aload (show jm_fe 20 5 = some (jk_aload 0 1) from rfl) rfl
theorem r_M_isFunction_6 : je X 20 6 L (.inr (.inl (some a)) :: S) σ = je_v X 20 9 L S σ (jm_gf σ.1 a 9 1) := je_getf (show jm_fe 20 6 = some (jk_getf 9 1) from rfl)
theorem r_M_isFunction_9 : je X 20 9 L (.inl q :: .inl p :: S) σ = if q ≤ p then je X 20 16 L S σ else je X 20 12 L S σ := je_icmp_ge (show jm_fe 20 9 = some (jk_icmp .ge 16) from rfl)
theorem r_M_isFunction_12 : je X 20 12 L S σ = je X 20 13 L (.inl 1 :: S) σ := je_const (show jm_fe 20 12 = some (jk_const 1 1) from rfl)
theorem r_M_isFunction_13 : je X 20 13 L S σ = je X 20 17 L S σ := je_goto (show jm_fe 20 13 = some (jk_goto 17) from rfl)
theorem r_M_isFunction_16 : je X 20 16 L S σ = je X 20 17 L (.inl 0 :: S) σ := je_const (show jm_fe 20 16 = some (jk_const 0 1) from rfl)
theorem r_M_isFunction_17 (hx : p = 0 ∨ p = 1) : je X 20 17 L [.inl p] σ = some (some (.inl p), σ) := je_zret (show jm_fe 20 17 = some (jk_zret) from rfl) hx
theorem r_M_stop_0 : je X 21 0 [some (.inr r)] S σ = je X 21 1 [some (.inr r)] (.inr r :: S) σ := je_aload (show jm_fe 21 0 = some (jk_aload 0 1) from rfl) rfl
theorem r_M_stop_1 : je X 21 1 L S σ = je X 21 2 L (.inl 0 :: S) σ := je_const (show jm_fe 21 1 = some (jk_const 0 1) from rfl)
theorem r_M_stop_2 : je X 21 2 L (v :: .inr (.inl (some a)) :: S) σ = je_h X 21 5 L S σ.2 (jm_pf σ.1 a 9 16 1 v) := je_putf (show jm_fe 21 2 = some (jk_putf 9 16 1) from rfl)
theorem r_M_stop_5 : je X 21 5 [some (.inr r)] S σ = je X 21 6 [some (.inr r)] (.inr r :: S) σ := je_aload (show jm_fe 21 5 = some (jk_aload 0 1) from rfl) rfl
theorem r_M_stop_6 : je X 21 6 L S σ = je X 21 7 L (.inl 0 :: S) σ := je_const (show jm_fe 21 6 = some (jk_const 0 1) from rfl)
theorem r_M_stop_7 : je X 21 7 L (v :: .inr (.inl (some a)) :: S) σ = je_h X 21 10 L S σ.2 (jm_pf σ.1 a 9 22 0 v) := je_putf (show jm_fe 21 7 = some (jk_putf 9 22 0) from rfl)
theorem r_M_stop_10 : je X 21 10 L [] σ = some (none, σ) := je_ret (show jm_fe 21 10 = some (jk_ret) from rfl)
theorem r_M_function_0 : je X 22 0 [some (.inr r), l1, l2, l3, l4] S σ = je X 22 1 [some (.inr r), l1, l2, l3, l4] (.inr r :: S) σ := je_aload (show jm_fe 22 0 = some (jk_aload 0 1) from rfl) rfl
theorem r_M_function_1 : je X 22 1 L S σ = je X 22 2 L (.inl 0 :: S) σ := je_const (show jm_fe 22 1 = some (jk_const 0 1) from rfl)
theorem r_M_function_2 : je X 22 2 L (v :: .inr (.inl (some a)) :: S) σ = je_h X 22 5 L S σ.2 (jm_pf σ.1 a 9 0 0 v) := je_putf (show jm_fe 22 2 = some (jk_putf 9 0 0) from rfl)
theorem r_M_function_5 : je X 22 5 [l0, some (.inl x), l2, l3, l4] S σ = je X 22 6 [l0, some (.inl x), l2, l3, l4] (.inl x :: S) σ := je_iload (show jm_fe 22 5 = some (jk_iload 1 1) from rfl) rfl
theorem r_M_function_6 : je X 22 6 L (.inl p :: S) σ = if p < 0 then je X 22 38 L S σ else je X 22 9 L S σ := je_if_lt (show jm_fe 22 6 = some (jk_if .lt 38) from rfl)
theorem r_M_function_9 : je X 22 9 [l0, some (.inl x), l2, l3, l4] S σ = je X 22 10 [l0, some (.inl x), l2, l3, l4] (.inl x :: S) σ := je_iload (show jm_fe 22 9 = some (jk_iload 1 1) from rfl) rfl
theorem r_M_function_10 : je X 22 10 L S σ = je X 22 11 L (.inl 4 :: S) σ := je_const (show jm_fe 22 10 = some (jk_const 4 1) from rfl)
theorem r_M_function_11 : je X 22 11 L (.inl q :: .inl p :: S) σ = if q < p then je X 22 38 L S σ else je X 22 14 L S σ := je_icmp_gt (show jm_fe 22 11 = some (jk_icmp .gt 38) from rfl)
theorem r_M_function_14 : je X 22 14 [l0, l1, some (.inl x), l3, l4] S σ = je X 22 15 [l0, l1, some (.inl x), l3, l4] (.inl x :: S) σ := je_iload (show jm_fe 22 14 = some (jk_iload 2 1) from rfl) rfl
theorem r_M_function_15 : je X 22 15 [l0, some (.inl x), l2, l3, l4] S σ = je X 22 16 [l0, some (.inl x), l2, l3, l4] (.inl x :: S) σ := je_iload (show jm_fe 22 15 = some (jk_iload 1 1) from rfl) rfl
theorem r_M_function_16 : je X 22 16 L (.inl q :: .inl p :: S) σ = if p < q then je X 22 38 L S σ else je X 22 19 L S σ := je_icmp_lt (show jm_fe 22 16 = some (jk_icmp .lt 38) from rfl)
theorem r_M_function_19 : je X 22 19 [l0, l1, some (.inl x), l3, l4] S σ = je X 22 20 [l0, l1, some (.inl x), l3, l4] (.inl x :: S) σ := je_iload (show jm_fe 22 19 = some (jk_iload 2 1) from rfl) rfl
theorem r_M_function_20 : je X 22 20 L S σ = je X 22 22 L (.inl 8 :: S) σ := je_const (show jm_fe 22 20 = some (jk_const (8) 2) from rfl)
theorem r_M_function_22 : je X 22 22 L (.inl q :: .inl p :: S) σ = if q < p then je X 22 38 L S σ else je X 22 25 L S σ := je_icmp_gt (show jm_fe 22 22 = some (jk_icmp .gt 38) from rfl)
theorem r_M_function_25 : je X 22 25 [l0, l1, l2, some (.inl x), l4] S σ = je X 22 26 [l0, l1, l2, some (.inl x), l4] (.inl x :: S) σ := je_iload (show jm_fe 22 25 = some (jk_iload 3 1) from rfl) rfl
theorem r_M_function_26 : je X 22 26 L (.inl p :: S) σ = if p = 0 then je X 22 34 L S σ else je X 22 29 L S σ := je_if_eq (show jm_fe 22 26 = some (jk_if .eq 34) from rfl)
theorem r_M_function_29 : je X 22 29 [l0, l1, l2, some (.inl x), l4] S σ = je X 22 30 [l0, l1, l2, some (.inl x), l4] (.inl x :: S) σ := je_iload (show jm_fe 22 29 = some (jk_iload 3 1) from rfl) rfl
theorem r_M_function_30 : je X 22 30 L S σ = je X 22 31 L (.inl 1 :: S) σ := je_const (show jm_fe 22 30 = some (jk_const 1 1) from rfl)
theorem r_M_function_31 : je X 22 31 L (.inl q :: .inl p :: S) σ = if p = q then je X 22 34 L S σ else je X 22 38 L S σ := je_icmp_ne (show jm_fe 22 31 = some (jk_icmp .ne 38) from rfl)
theorem r_M_function_34 : je X 22 34 L S σ = je X 22 35 L (.inl 1 :: S) σ := je_const (show jm_fe 22 34 = some (jk_const 1 1) from rfl)
theorem r_M_function_35 : je X 22 35 L S σ = je X 22 39 L S σ := je_goto (show jm_fe 22 35 = some (jk_goto 39) from rfl)
theorem r_M_function_38 : je X 22 38 L S σ = je X 22 39 L (.inl 0 :: S) σ := je_const (show jm_fe 22 38 = some (jk_const 0 1) from rfl)
theorem r_M_function_39 : je X 22 39 [l0, l1, l2, l3, l4] (.inl x :: S) σ = je X 22 41 [l0, l1, l2, l3, some (.inl x)] S σ := je_istore (show jm_fe 22 39 = some (jk_istore 4 2) from rfl) (Nat.le_of_ble_eq_true rfl)
theorem r_M_function_41 : je X 22 41 [l0, l1, l2, l3, some (.inl x)] S σ = je X 22 43 [l0, l1, l2, l3, some (.inl x)] (.inl x :: S) σ := je_iload (show jm_fe 22 41 = some (jk_iload 4 2) from rfl) rfl
theorem r_M_function_43 : je X 22 43 L (.inl p :: S) σ = if p = 0 then je X 22 55 L S σ else je X 22 46 L S σ := je_if_eq (show jm_fe 22 43 = some (jk_if .eq 55) from rfl)
theorem r_M_function_46 : je X 22 46 [some (.inr r), l1, l2, l3, l4] S σ = je X 22 47 [some (.inr r), l1, l2, l3, l4] (.inr r :: S) σ := je_aload (show jm_fe 22 46 = some (jk_aload 0 1) from rfl) rfl
theorem r_M_function_47 : je X 22 47 L (.inr (.inl (some a)) :: S) σ = je_v X 22 50 L S σ (jm_gf σ.1 a 9 1) := je_getf (show jm_fe 22 47 = some (jk_getf 9 1) from rfl)
theorem r_M_function_50 : je X 22 50 L S σ = je X 22 52 L (.inl 8 :: S) σ := je_const (show jm_fe 22 50 = some (jk_const (8) 2) from rfl)
theorem r_M_function_52 : je X 22 52 L (.inl q :: .inl p :: S) σ = if p = q then je X 22 55 L S σ else je X 22 57 L S σ := je_icmp_ne (show jm_fe 22 52 = some (jk_icmp .ne 57) from rfl)
theorem r_M_function_55 : je X 22 55 L S σ = je X 22 56 L (.inl (-1) :: S) σ := je_const (show jm_fe 22 55 = some (jk_const (-1) 1) from rfl)
theorem r_M_function_56 : je X 22 56 L [.inl p] σ = some (some (.inl p), σ) := je_iret (show jm_fe 22 56 = some (jk_iret) from rfl)
theorem r_M_function_57 : je X 22 57 [some (.inr r), l1, l2, l3, l4] S σ = je X 22 58 [some (.inr r), l1, l2, l3, l4] (.inr r :: S) σ := je_aload (show jm_fe 22 57 = some (jk_aload 0 1) from rfl) rfl
theorem r_M_function_58 : je X 22 58 L (.inr (.inl (some a)) :: S) σ = je_v X 22 61 L S σ (jm_gf σ.1 a 9 2) := je_getf (show jm_fe 22 58 = some (jk_getf 9 2) from rfl)
theorem r_M_function_61 : je X 22 61 [some (.inr r), l1, l2, l3, l4] S σ = je X 22 62 [some (.inr r), l1, l2, l3, l4] (.inr r :: S) σ := je_aload (show jm_fe 22 61 = some (jk_aload 0 1) from rfl) rfl
theorem r_M_function_62 : je X 22 62 L (.inr (.inl (some a)) :: S) σ = je_v X 22 65 L S σ (jm_gf σ.1 a 9 1) := je_getf (show jm_fe 22 62 = some (jk_getf 9 1) from rfl)
theorem r_M_function_65 : je X 22 65 [l0, some (.inl x), l2, l3, l4] S σ = je X 22 66 [l0, some (.inl x), l2, l3, l4] (.inl x :: S) σ := je_iload (show jm_fe 22 65 = some (jk_iload 1 1) from rfl) rfl
theorem r_M_function_66 : je X 22 66 L (.inl q :: .inl p :: .inr (.inl (some a)) :: S) σ = je_h X 22 67 L S σ.2 (jm_as σ.1 a 0 p q) := je_iast (show jm_fe 22 66 = some (jk_iast) from rfl)
theorem r_M_function_67 : je X 22 67 [some (.inr r), l1, l2, l3, l4] S σ = je X 22 68 [some (.inr r), l1, l2, l3, l4] (.inr r :: S) σ := je_aload (show jm_fe 22 67 = some (jk_aload 0 1) from rfl) rfl
theorem r_M_function_68 : je X 22 68 L (.inr (.inl (some a)) :: S) σ = je_v X 22 71 L S σ (jm_gf σ.1 a 9 3) := je_getf (show jm_fe 22 68 = some (jk_getf 9 3) from rfl)
theorem r_M_function_71 : je X 22 71 [some (.inr r), l1, l2, l3, l4] S σ = je X 22 72 [some (.inr r), l1, l2, l3, l4] (.inr r :: S) σ := je_aload (show jm_fe 22 71 = some (jk_aload 0 1) from rfl) rfl
theorem r_M_function_72 : je X 22 72 L (.inr (.inl (some a)) :: S) σ = je_v X 22 75 L S σ (jm_gf σ.1 a 9 1) := je_getf (show jm_fe 22 72 = some (jk_getf 9 1) from rfl)
theorem r_M_function_75 : je X 22 75 [l0, l1, some (.inl x), l3, l4] S σ = je X 22 76 [l0, l1, some (.inl x), l3, l4] (.inl x :: S) σ := je_iload (show jm_fe 22 75 = some (jk_iload 2 1) from rfl) rfl
theorem r_M_function_76 : je X 22 76 L (.inl q :: .inl p :: .inr (.inl (some a)) :: S) σ = je_h X 22 77 L S σ.2 (jm_as σ.1 a 0 p q) := je_iast (show jm_fe 22 76 = some (jk_iast) from rfl)
theorem r_M_function_77 : je X 22 77 [some (.inr r), l1, l2, l3, l4] S σ = je X 22 78 [some (.inr r), l1, l2, l3, l4] (.inr r :: S) σ := je_aload (show jm_fe 22 77 = some (jk_aload 0 1) from rfl) rfl
theorem r_M_function_78 : je X 22 78 L (.inr (.inl (some a)) :: S) σ = je_v X 22 81 L S σ (jm_gf σ.1 a 9 4) := je_getf (show jm_fe 22 78 = some (jk_getf 9 4) from rfl)
theorem r_M_function_81 : je X 22 81 [some (.inr r), l1, l2, l3, l4] S σ = je X 22 82 [some (.inr r), l1, l2, l3, l4] (.inr r :: S) σ := je_aload (show jm_fe 22 81 = some (jk_aload 0 1) from rfl) rfl
theorem r_M_function_82 : je X 22 82 L (.inr (.inl (some a)) :: S) σ = je_v X 22 85 L S σ (jm_gf σ.1 a 9 1) := je_getf (show jm_fe 22 82 = some (jk_getf 9 1) from rfl)
theorem r_M_function_85 : je X 22 85 [l0, l1, l2, some (.inl x), l4] S σ = je X 22 86 [l0, l1, l2, some (.inl x), l4] (.inl x :: S) σ := je_iload (show jm_fe 22 85 = some (jk_iload 3 1) from rfl) rfl
theorem r_M_function_86 : je X 22 86 L (.inl q :: .inl p :: .inr (.inl (some a)) :: S) σ = je_h X 22 87 L S σ.2 (jm_as σ.1 a 0 p q) := je_iast (show jm_fe 22 86 = some (jk_iast) from rfl)
theorem r_M_function_87 : je X 22 87 [some (.inr r), l1, l2, l3, l4] S σ = je X 22 88 [some (.inr r), l1, l2, l3, l4] (.inr r :: S) σ := je_aload (show jm_fe 22 87 = some (jk_aload 0 1) from rfl) rfl
theorem r_M_function_88 : je X 22 88 L (.inr (.inl (some a)) :: S) σ = je_v X 22 91 L S σ (jm_gf σ.1 a 9 5) := je_getf (show jm_fe 22 88 = some (jk_getf 9 5) from rfl)
theorem r_M_function_91 : je X 22 91 [some (.inr r), l1, l2, l3, l4] S σ = je X 22 92 [some (.inr r), l1, l2, l3, l4] (.inr r :: S) σ := je_aload (show jm_fe 22 91 = some (jk_aload 0 1) from rfl) rfl
theorem r_M_function_92 : je X 22 92 L (.inr (.inl (some a)) :: S) σ = je_v X 22 95 L S σ (jm_gf σ.1 a 9 1) := je_getf (show jm_fe 22 92 = some (jk_getf 9 1) from rfl)
theorem r_M_function_95 : je X 22 95 L S σ = je X 22 96 L (.inl 0 :: S) σ := je_const (show jm_fe 22 95 = some (jk_const 0 1) from rfl)
theorem r_M_function_96 : je X 22 96 L (.inl q :: .inl p :: .inr (.inl (some a)) :: S) σ = je_h X 22 97 L S σ.2 (jm_as σ.1 a 0 p q) := je_iast (show jm_fe 22 96 = some (jk_iast) from rfl)
theorem r_M_function_97 : je X 22 97 [some (.inr r), l1, l2, l3, l4] S σ = je X 22 98 [some (.inr r), l1, l2, l3, l4] (.inr r :: S) σ := je_aload (show jm_fe 22 97 = some (jk_aload 0 1) from rfl) rfl
theorem r_M_function_98 : je X 22 98 L (.inr (.inl (some a)) :: S) σ = je_v X 22 101 L S σ (jm_gf σ.1 a 9 8) := je_getf (show jm_fe 22 98 = some (jk_getf 9 8) from rfl)
theorem r_M_function_101 : je X 22 101 [some (.inr r), l1, l2, l3, l4] S σ = je X 22 102 [some (.inr r), l1, l2, l3, l4] (.inr r :: S) σ := je_aload (show jm_fe 22 101 = some (jk_aload 0 1) from rfl) rfl
theorem r_M_function_102 : je X 22 102 L (.inr (.inl (some a)) :: S) σ = je_v X 22 105 L S σ (jm_gf σ.1 a 9 1) := je_getf (show jm_fe 22 102 = some (jk_getf 9 1) from rfl)
theorem r_M_function_105 : je X 22 105 L S σ = je X 22 106 L (.inl 0 :: S) σ := je_const (show jm_fe 22 105 = some (jk_const 0 1) from rfl)
theorem r_M_function_106 : je X 22 106 L (.inl q :: .inl p :: .inr (.inl (some a)) :: S) σ = je_h X 22 107 L S σ.2 (jm_as σ.1 a 0 p q) := je_iast (show jm_fe 22 106 = some (jk_iast) from rfl)
theorem r_M_function_107 : je X 22 107 [some (.inr r), l1, l2, l3, l4] S σ = je X 22 108 [some (.inr r), l1, l2, l3, l4] (.inr r :: S) σ := je_aload (show jm_fe 22 107 = some (jk_aload 0 1) from rfl) rfl
theorem r_M_function_108 : je X 22 108 L (v :: S) σ = je X 22 109 L (v :: v :: S) σ := je_dup (show jm_fe 22 108 = some (jk_dup) from rfl)
theorem r_M_function_109 : je X 22 109 L (.inr (.inl (some a)) :: S) σ = je_v X 22 112 L S σ (jm_gf σ.1 a 9 1) := je_getf (show jm_fe 22 109 = some (jk_getf 9 1) from rfl)
theorem r_M_function_112 : je X 22 112 L S σ = je X 22 113 L (.inl 1 :: S) σ := je_const (show jm_fe 22 112 = some (jk_const 1 1) from rfl)
theorem r_M_function_113 : je X 22 113 L (.inl q :: .inl p :: S) σ = je X 22 114 L (.inl (p + q) :: S) σ := je_bin (show jm_fe 22 113 = some (jb_iadd) from rfl)
theorem r_M_function_114 : je X 22 114 L (v :: .inr (.inl (some a)) :: S) σ = je_h X 22 117 L S σ.2 (jm_pf σ.1 a 9 1 0 v) := je_putf (show jm_fe 22 114 = some (jk_putf 9 1 0) from rfl)
theorem r_M_function_117 : je X 22 117 [some (.inr r), l1, l2, l3, l4] S σ = je X 22 118 [some (.inr r), l1, l2, l3, l4] (.inr r :: S) σ := je_aload (show jm_fe 22 117 = some (jk_aload 0 1) from rfl) rfl
theorem r_M_function_118 (hc : jm_cl σ.1 a = some 9) (h8 : S.length ≤ 8) : je X 22 118 L (.inr (.inl (some a)) :: S) σ = je_c X 22 121 L S (je X 21 0 [some (.inr (.inl (some a)))] [] σ) := je_callV (as := []) (S' := S) (show jm_fe 22 118 = some (jk_callV 21 0 9) from rfl) rfl hc h8
theorem r_M_function_121 : je X 22 121 [some (.inr r), l1, l2, l3, l4] S σ = je X 22 122 [some (.inr r), l1, l2, l3, l4] (.inr r :: S) σ := je_aload (show jm_fe 22 121 = some (jk_aload 0 1) from rfl) rfl
theorem r_M_function_122 : je X 22 122 L (.inr (.inl (some a)) :: S) σ = je_v X 22 125 L S σ (jm_gf σ.1 a 9 1) := je_getf (show jm_fe 22 122 = some (jk_getf 9 1) from rfl)
theorem r_M_function_125 : je X 22 125 L S σ = je X 22 126 L (.inl 1 :: S) σ := je_const (show jm_fe 22 125 = some (jk_const 1 1) from rfl)
theorem r_M_function_126 : je X 22 126 L (.inl q :: .inl p :: S) σ = je X 22 127 L (.inl (p - q) :: S) σ := je_bin (show jm_fe 22 126 = some (jb_isub) from rfl)
theorem r_M_function_127 : je X 22 127 L [.inl p] σ = some (some (.inl p), σ) := je_iret (show jm_fe 22 127 = some (jk_iret) from rfl)
theorem r_M_add_0 : je X 23 0 [some (.inr r), l1, l2, l3, l4] S σ = je X 23 1 [some (.inr r), l1, l2, l3, l4] (.inr r :: S) σ := je_aload (show jm_fe 23 0 = some (jk_aload 0 1) from rfl) rfl
theorem r_M_add_1 : je X 23 1 L S σ = je X 23 2 L (.inl 0 :: S) σ := je_const (show jm_fe 23 1 = some (jk_const 0 1) from rfl)
theorem r_M_add_2 : je X 23 2 L (v :: .inr (.inl (some a)) :: S) σ = je_h X 23 5 L S σ.2 (jm_pf σ.1 a 9 0 0 v) := je_putf (show jm_fe 23 2 = some (jk_putf 9 0 0) from rfl)
theorem r_M_add_5 : je X 23 5 [some (.inr r), l1, l2, l3, l4] S σ = je X 23 6 [some (.inr r), l1, l2, l3, l4] (.inr r :: S) σ := je_aload (show jm_fe 23 5 = some (jk_aload 0 1) from rfl) rfl
theorem r_M_add_6 : je X 23 6 [l0, some (.inl x), l2, l3, l4] S σ = je X 23 7 [l0, some (.inl x), l2, l3, l4] (.inl x :: S) σ := je_iload (show jm_fe 23 6 = some (jk_iload 1 1) from rfl) rfl
theorem r_M_add_7 (hc : jm_cl σ.1 a = some 9) (h8 : S.length ≤ 8) : je X 23 7 L (v0 :: .inr (.inl (some a)) :: S) σ = je_c X 23 10 L S (je X 20 0 [some (.inr (.inl (some a))), some v0] [] σ) := je_callV (as := [v0]) (S' := S) (show jm_fe 23 7 = some (jk_callV 20 1 9) from rfl) rfl hc h8
theorem r_M_add_10 : je X 23 10 L (.inl p :: S) σ = if p = 0 then je X 23 46 L S σ else je X 23 13 L S σ := je_if_eq (show jm_fe 23 10 = some (jk_if .eq 46) from rfl)
theorem r_M_add_13 : je X 23 13 [some (.inr r), l1, l2, l3, l4] S σ = je X 23 14 [some (.inr r), l1, l2, l3, l4] (.inr r :: S) σ := je_aload (show jm_fe 23 13 = some (jk_aload 0 1) from rfl) rfl
theorem r_M_add_14 : je X 23 14 L (.inr (.inl (some a)) :: S) σ = je_v X 23 17 L S σ (jm_gf σ.1 a 9 5) := je_getf (show jm_fe 23 14 = some (jk_getf 9 5) from rfl)
theorem r_M_add_17 : je X 23 17 [some (.inr r), l1, l2, l3, l4] S σ = je X 23 18 [some (.inr r), l1, l2, l3, l4] (.inr r :: S) σ := je_aload (show jm_fe 23 17 = some (jk_aload 0 1) from rfl) rfl
theorem r_M_add_18 : je X 23 18 [l0, some (.inl x), l2, l3, l4] S σ = je X 23 19 [l0, some (.inl x), l2, l3, l4] (.inl x :: S) σ := je_iload (show jm_fe 23 18 = some (jk_iload 1 1) from rfl) rfl
theorem r_M_add_19 (hc : jm_cl σ.1 a = some 9) (h8 : S.length ≤ 8) : je X 23 19 L (v0 :: .inr (.inl (some a)) :: S) σ = je_c X 23 22 L S (je X 20 0 [some (.inr (.inl (some a))), some v0] [] σ) := je_callV (as := [v0]) (S' := S) (show jm_fe 23 19 = some (jk_callV 20 1 9) from rfl) rfl hc h8
theorem r_M_add_22 : je X 23 22 L (.inl p :: S) σ = if p = 0 then je X 23 29 L S σ else je X 23 25 L S σ := je_if_eq (show jm_fe 23 22 = some (jk_if .eq 29) from rfl)
theorem r_M_add_25 : je X 23 25 [l0, some (.inl x), l2, l3, l4] S σ = je X 23 26 [l0, some (.inl x), l2, l3, l4] (.inl x :: S) σ := je_iload (show jm_fe 23 25 = some (jk_iload 1 1) from rfl) rfl
theorem r_M_add_26 : je X 23 26 L S σ = je X 23 30 L S σ := je_goto (show jm_fe 23 26 = some (jk_goto 30) from rfl)
theorem r_M_add_29 : je X 23 29 L S σ = je X 23 30 L (.inl 0 :: S) σ := je_const (show jm_fe 23 29 = some (jk_const 0 1) from rfl)
theorem r_M_add_30 : je X 23 30 L (.inl p :: .inr (.inl (some a)) :: S) σ = je_i X 23 31 L S σ (jm_al σ.1 a 0 p) := je_ald (show jm_fe 23 30 = some (jk_ald 0) from rfl)
theorem r_M_add_31 : je X 23 31 L S σ = je X 23 33 L (.inl 100 :: S) σ := je_const (show jm_fe 23 31 = some (jk_const (100) 2) from rfl)
theorem r_M_add_33 : je X 23 33 L (.inl q :: .inl p :: S) σ = if p = q then je X 23 46 L S σ else je X 23 36 L S σ := je_icmp_eq (show jm_fe 23 33 = some (jk_icmp .eq 46) from rfl)
theorem r_M_add_36 : je X 23 36 [l0, l1, some (.inl x), l3, l4] S σ = je X 23 37 [l0, l1, some (.inl x), l3, l4] (.inl x :: S) σ := je_iload (show jm_fe 23 36 = some (jk_iload 2 1) from rfl) rfl
theorem r_M_add_37 : je X 23 37 L (.inl p :: S) σ = if p < 0 then je X 23 46 L S σ else je X 23 40 L S σ := je_if_lt (show jm_fe 23 37 = some (jk_if .lt 46) from rfl)
theorem r_M_add_40 : je X 23 40 [l0, l1, some (.inl x), l3, l4] S σ = je X 23 41 [l0, l1, some (.inl x), l3, l4] (.inl x :: S) σ := je_iload (show jm_fe 23 40 = some (jk_iload 2 1) from rfl) rfl
theorem r_M_add_41 : je X 23 41 L S σ = je X 23 43 L (.inl 28 :: S) σ := je_const (show jm_fe 23 41 = some (jk_const (28) 2) from rfl)
theorem r_M_add_43 : je X 23 43 L (.inl q :: .inl p :: S) σ = if p ≤ q then je X 23 48 L S σ else je X 23 46 L S σ := je_icmp_le (show jm_fe 23 43 = some (jk_icmp .le 48) from rfl)
theorem r_M_add_46 : je X 23 46 L S σ = je X 23 47 L (.inl (-1) :: S) σ := je_const (show jm_fe 23 46 = some (jk_const (-1) 1) from rfl)
theorem r_M_add_47 : je X 23 47 L [.inl p] σ = some (some (.inl p), σ) := je_iret (show jm_fe 23 47 = some (jk_iret) from rfl)
theorem r_M_add_48 : je X 23 48 [some (.inr r), l1, l2, l3, l4] S σ = je X 23 49 [some (.inr r), l1, l2, l3, l4] (.inr r :: S) σ := je_aload (show jm_fe 23 48 = some (jk_aload 0 1) from rfl) rfl
theorem r_M_add_49 : je X 23 49 L (.inr (.inl (some a)) :: S) σ = je_v X 23 52 L S σ (jm_gf σ.1 a 9 5) := je_getf (show jm_fe 23 49 = some (jk_getf 9 5) from rfl)
theorem r_M_add_52 : je X 23 52 [l0, some (.inl x), l2, l3, l4] S σ = je X 23 53 [l0, some (.inl x), l2, l3, l4] (.inl x :: S) σ := je_iload (show jm_fe 23 52 = some (jk_iload 1 1) from rfl) rfl
theorem r_M_add_53 : je X 23 53 L (.inl p :: .inr (.inl (some a)) :: S) σ = je_i X 23 54 L S σ (jm_al σ.1 a 0 p) := je_ald (show jm_fe 23 53 = some (jk_ald 0) from rfl)
theorem r_M_add_54 : je X 23 54 [l0, l1, l2, l3, l4] (.inl x :: S) σ = je X 23 56 [l0, l1, l2, l3, some (.inl x)] S σ := je_istore (show jm_fe 23 54 = some (jk_istore 4 2) from rfl) (Nat.le_of_ble_eq_true rfl)
theorem r_M_add_56 : je X 23 56 [some (.inr r), l1, l2, l3, l4] S σ = je X 23 57 [some (.inr r), l1, l2, l3, l4] (.inr r :: S) σ := je_aload (show jm_fe 23 56 = some (jk_aload 0 1) from rfl) rfl
theorem r_M_add_57 : je X 23 57 L (.inr (.inl (some a)) :: S) σ = je_v X 23 60 L S σ (jm_gf σ.1 a 9 6) := je_getf (show jm_fe 23 57 = some (jk_getf 9 6) from rfl)
theorem r_M_add_60 : je X 23 60 L S σ = je X 23 62 L (.inl 100 :: S) σ := je_const (show jm_fe 23 60 = some (jk_const (100) 2) from rfl)
theorem r_M_add_62 : je X 23 62 [l0, some (.inl x), l2, l3, l4] S σ = je X 23 63 [l0, some (.inl x), l2, l3, l4] (.inl x :: S) σ := je_iload (show jm_fe 23 62 = some (jk_iload 1 1) from rfl) rfl
theorem r_M_add_63 : je X 23 63 L (.inl q :: .inl p :: S) σ = je X 23 64 L (.inl (p * q) :: S) σ := je_bin (show jm_fe 23 63 = some (jb_imul) from rfl)
theorem r_M_add_64 : je X 23 64 [l0, l1, l2, l3, some (.inl x)] S σ = je X 23 66 [l0, l1, l2, l3, some (.inl x)] (.inl x :: S) σ := je_iload (show jm_fe 23 64 = some (jk_iload 4 2) from rfl) rfl
theorem r_M_add_66 : je X 23 66 L (.inl q :: .inl p :: S) σ = je X 23 67 L (.inl (p + q) :: S) σ := je_bin (show jm_fe 23 66 = some (jb_iadd) from rfl)
theorem r_M_add_67 : je X 23 67 [l0, l1, some (.inl x), l3, l4] S σ = je X 23 68 [l0, l1, some (.inl x), l3, l4] (.inl x :: S) σ := je_iload (show jm_fe 23 67 = some (jk_iload 2 1) from rfl) rfl
theorem r_M_add_68 : je X 23 68 L (.inl q :: .inl p :: .inr (.inl (some a)) :: S) σ = je_h X 23 69 L S σ.2 (jm_as σ.1 a 0 p q) := je_iast (show jm_fe 23 68 = some (jk_iast) from rfl)
theorem r_M_add_69 : je X 23 69 [some (.inr r), l1, l2, l3, l4] S σ = je X 23 70 [some (.inr r), l1, l2, l3, l4] (.inr r :: S) σ := je_aload (show jm_fe 23 69 = some (jk_aload 0 1) from rfl) rfl
theorem r_M_add_70 : je X 23 70 L (.inr (.inl (some a)) :: S) σ = je_v X 23 73 L S σ (jm_gf σ.1 a 9 7) := je_getf (show jm_fe 23 70 = some (jk_getf 9 7) from rfl)
theorem r_M_add_73 : je X 23 73 L S σ = je X 23 75 L (.inl 100 :: S) σ := je_const (show jm_fe 23 73 = some (jk_const (100) 2) from rfl)
theorem r_M_add_75 : je X 23 75 [l0, some (.inl x), l2, l3, l4] S σ = je X 23 76 [l0, some (.inl x), l2, l3, l4] (.inl x :: S) σ := je_iload (show jm_fe 23 75 = some (jk_iload 1 1) from rfl) rfl
theorem r_M_add_76 : je X 23 76 L (.inl q :: .inl p :: S) σ = je X 23 77 L (.inl (p * q) :: S) σ := je_bin (show jm_fe 23 76 = some (jb_imul) from rfl)
theorem r_M_add_77 : je X 23 77 [l0, l1, l2, l3, some (.inl x)] S σ = je X 23 79 [l0, l1, l2, l3, some (.inl x)] (.inl x :: S) σ := je_iload (show jm_fe 23 77 = some (jk_iload 4 2) from rfl) rfl
theorem r_M_add_79 : je X 23 79 L (.inl q :: .inl p :: S) σ = je X 23 80 L (.inl (p + q) :: S) σ := je_bin (show jm_fe 23 79 = some (jb_iadd) from rfl)
theorem r_M_add_80 : je X 23 80 [l0, l1, l2, some (.inl x), l4] S σ = je X 23 81 [l0, l1, l2, some (.inl x), l4] (.inl x :: S) σ := je_iload (show jm_fe 23 80 = some (jk_iload 3 1) from rfl) rfl
theorem r_M_add_81 : je X 23 81 L (.inl q :: .inl p :: .inr (.inl (some a)) :: S) σ = je_h X 23 82 L S σ.2 (jm_as σ.1 a 0 p q) := je_iast (show jm_fe 23 81 = some (jk_iast) from rfl)
theorem r_M_add_82 : je X 23 82 [some (.inr r), l1, l2, l3, l4] S σ = je X 23 83 [some (.inr r), l1, l2, l3, l4] (.inr r :: S) σ := je_aload (show jm_fe 23 82 = some (jk_aload 0 1) from rfl) rfl
theorem r_M_add_83 : je X 23 83 L (.inr (.inl (some a)) :: S) σ = je_v X 23 86 L S σ (jm_gf σ.1 a 9 5) := je_getf (show jm_fe 23 83 = some (jk_getf 9 5) from rfl)
theorem r_M_add_86 : je X 23 86 [l0, some (.inl x), l2, l3, l4] S σ = je X 23 87 [l0, some (.inl x), l2, l3, l4] (.inl x :: S) σ := je_iload (show jm_fe 23 86 = some (jk_iload 1 1) from rfl) rfl
theorem r_M_add_87 : je X 23 87 [l0, l1, l2, l3, some (.inl x)] S σ = je X 23 89 [l0, l1, l2, l3, some (.inl x)] (.inl x :: S) σ := je_iload (show jm_fe 23 87 = some (jk_iload 4 2) from rfl) rfl
theorem r_M_add_89 : je X 23 89 L S σ = je X 23 90 L (.inl 1 :: S) σ := je_const (show jm_fe 23 89 = some (jk_const 1 1) from rfl)
theorem r_M_add_90 : je X 23 90 L (.inl q :: .inl p :: S) σ = je X 23 91 L (.inl (p + q) :: S) σ := je_bin (show jm_fe 23 90 = some (jb_iadd) from rfl)
theorem r_M_add_91 : je X 23 91 L (.inl q :: .inl p :: .inr (.inl (some a)) :: S) σ = je_h X 23 92 L S σ.2 (jm_as σ.1 a 0 p q) := je_iast (show jm_fe 23 91 = some (jk_iast) from rfl)
theorem r_M_add_92 : je X 23 92 [some (.inr r), l1, l2, l3, l4] S σ = je X 23 93 [some (.inr r), l1, l2, l3, l4] (.inr r :: S) σ := je_aload (show jm_fe 23 92 = some (jk_aload 0 1) from rfl) rfl
theorem r_M_add_93 (hc : jm_cl σ.1 a = some 9) (h8 : S.length ≤ 8) : je X 23 93 L (.inr (.inl (some a)) :: S) σ = je_c X 23 96 L S (je X 21 0 [some (.inr (.inl (some a)))] [] σ) := je_callV (as := []) (S' := S) (show jm_fe 23 93 = some (jk_callV 21 0 9) from rfl) rfl hc h8
theorem r_M_add_96 : je X 23 96 [l0, l1, l2, l3, some (.inl x)] S σ = je X 23 98 [l0, l1, l2, l3, some (.inl x)] (.inl x :: S) σ := je_iload (show jm_fe 23 96 = some (jk_iload 4 2) from rfl) rfl
theorem r_M_add_98 : je X 23 98 L [.inl p] σ = some (some (.inl p), σ) := je_iret (show jm_fe 23 98 = some (jk_iret) from rfl)
theorem r_M_change_0 : je X 24 0 [some (.inr r), l1, l2, l3, l4] S σ = je X 24 1 [some (.inr r), l1, l2, l3, l4] (.inr r :: S) σ := je_aload (show jm_fe 24 0 = some (jk_aload 0 1) from rfl) rfl
theorem r_M_change_1 : je X 24 1 L S σ = je X 24 2 L (.inl 0 :: S) σ := je_const (show jm_fe 24 1 = some (jk_const 0 1) from rfl)
theorem r_M_change_2 : je X 24 2 L (v :: .inr (.inl (some a)) :: S) σ = je_h X 24 5 L S σ.2 (jm_pf σ.1 a 9 0 0 v) := je_putf (show jm_fe 24 2 = some (jk_putf 9 0 0) from rfl)
theorem r_M_change_5 : je X 24 5 [some (.inr r), l1, l2, l3, l4] S σ = je X 24 6 [some (.inr r), l1, l2, l3, l4] (.inr r :: S) σ := je_aload (show jm_fe 24 5 = some (jk_aload 0 1) from rfl) rfl
theorem r_M_change_6 : je X 24 6 [l0, some (.inl x), l2, l3, l4] S σ = je X 24 7 [l0, some (.inl x), l2, l3, l4] (.inl x :: S) σ := je_iload (show jm_fe 24 6 = some (jk_iload 1 1) from rfl) rfl
theorem r_M_change_7 (hc : jm_cl σ.1 a = some 9) (h8 : S.length ≤ 8) : je X 24 7 L (v0 :: .inr (.inl (some a)) :: S) σ = je_c X 24 10 L S (je X 20 0 [some (.inr (.inl (some a))), some v0] [] σ) := je_callV (as := [v0]) (S' := S) (show jm_fe 24 7 = some (jk_callV 20 1 9) from rfl) rfl hc h8
theorem r_M_change_10 : je X 24 10 L (.inl p :: S) σ = if p = 0 then je X 24 49 L S σ else je X 24 13 L S σ := je_if_eq (show jm_fe 24 10 = some (jk_if .eq 49) from rfl)
theorem r_M_change_13 : je X 24 13 [l0, l1, some (.inl x), l3, l4] S σ = je X 24 14 [l0, l1, some (.inl x), l3, l4] (.inl x :: S) σ := je_iload (show jm_fe 24 13 = some (jk_iload 2 1) from rfl) rfl
theorem r_M_change_14 : je X 24 14 L (.inl p :: S) σ = if p < 0 then je X 24 49 L S σ else je X 24 17 L S σ := je_if_lt (show jm_fe 24 14 = some (jk_if .lt 49) from rfl)
theorem r_M_change_17 : je X 24 17 [l0, l1, some (.inl x), l3, l4] S σ = je X 24 18 [l0, l1, some (.inl x), l3, l4] (.inl x :: S) σ := je_iload (show jm_fe 24 17 = some (jk_iload 2 1) from rfl) rfl
theorem r_M_change_18 : je X 24 18 [some (.inr r), l1, l2, l3, l4] S σ = je X 24 19 [some (.inr r), l1, l2, l3, l4] (.inr r :: S) σ := je_aload (show jm_fe 24 18 = some (jk_aload 0 1) from rfl) rfl
theorem r_M_change_19 : je X 24 19 L (.inr (.inl (some a)) :: S) σ = je_v X 24 22 L S σ (jm_gf σ.1 a 9 5) := je_getf (show jm_fe 24 19 = some (jk_getf 9 5) from rfl)
theorem r_M_change_22 : je X 24 22 [some (.inr r), l1, l2, l3, l4] S σ = je X 24 23 [some (.inr r), l1, l2, l3, l4] (.inr r :: S) σ := je_aload (show jm_fe 24 22 = some (jk_aload 0 1) from rfl) rfl
theorem r_M_change_23 : je X 24 23 [l0, some (.inl x), l2, l3, l4] S σ = je X 24 24 [l0, some (.inl x), l2, l3, l4] (.inl x :: S) σ := je_iload (show jm_fe 24 23 = some (jk_iload 1 1) from rfl) rfl
theorem r_M_change_24 (hc : jm_cl σ.1 a = some 9) (h8 : S.length ≤ 8) : je X 24 24 L (v0 :: .inr (.inl (some a)) :: S) σ = je_c X 24 27 L S (je X 20 0 [some (.inr (.inl (some a))), some v0] [] σ) := je_callV (as := [v0]) (S' := S) (show jm_fe 24 24 = some (jk_callV 20 1 9) from rfl) rfl hc h8
theorem r_M_change_27 : je X 24 27 L (.inl p :: S) σ = if p = 0 then je X 24 34 L S σ else je X 24 30 L S σ := je_if_eq (show jm_fe 24 27 = some (jk_if .eq 34) from rfl)
theorem r_M_change_30 : je X 24 30 [l0, some (.inl x), l2, l3, l4] S σ = je X 24 31 [l0, some (.inl x), l2, l3, l4] (.inl x :: S) σ := je_iload (show jm_fe 24 30 = some (jk_iload 1 1) from rfl) rfl
theorem r_M_change_31 : je X 24 31 L S σ = je X 24 35 L S σ := je_goto (show jm_fe 24 31 = some (jk_goto 35) from rfl)
theorem r_M_change_34 : je X 24 34 L S σ = je X 24 35 L (.inl 0 :: S) σ := je_const (show jm_fe 24 34 = some (jk_const 0 1) from rfl)
theorem r_M_change_35 : je X 24 35 L (.inl p :: .inr (.inl (some a)) :: S) σ = je_i X 24 36 L S σ (jm_al σ.1 a 0 p) := je_ald (show jm_fe 24 35 = some (jk_ald 0) from rfl)
theorem r_M_change_36 : je X 24 36 L (.inl q :: .inl p :: S) σ = if q ≤ p then je X 24 49 L S σ else je X 24 39 L S σ := je_icmp_ge (show jm_fe 24 36 = some (jk_icmp .ge 49) from rfl)
theorem r_M_change_39 : je X 24 39 [l0, l1, l2, some (.inl x), l4] S σ = je X 24 40 [l0, l1, l2, some (.inl x), l4] (.inl x :: S) σ := je_iload (show jm_fe 24 39 = some (jk_iload 3 1) from rfl) rfl
theorem r_M_change_40 : je X 24 40 L (.inl p :: S) σ = if p < 0 then je X 24 49 L S σ else je X 24 43 L S σ := je_if_lt (show jm_fe 24 40 = some (jk_if .lt 49) from rfl)
theorem r_M_change_43 : je X 24 43 [l0, l1, l2, some (.inl x), l4] S σ = je X 24 44 [l0, l1, l2, some (.inl x), l4] (.inl x :: S) σ := je_iload (show jm_fe 24 43 = some (jk_iload 3 1) from rfl) rfl
theorem r_M_change_44 : je X 24 44 L S σ = je X 24 46 L (.inl 28 :: S) σ := je_const (show jm_fe 24 44 = some (jk_const (28) 2) from rfl)
theorem r_M_change_46 : je X 24 46 L (.inl q :: .inl p :: S) σ = if p ≤ q then je X 24 51 L S σ else je X 24 49 L S σ := je_icmp_le (show jm_fe 24 46 = some (jk_icmp .le 51) from rfl)
theorem r_M_change_49 : je X 24 49 L S σ = je X 24 50 L (.inl 0 :: S) σ := je_const (show jm_fe 24 49 = some (jk_const 0 1) from rfl)
theorem r_M_change_50 (hx : p = 0 ∨ p = 1) : je X 24 50 L [.inl p] σ = some (some (.inl p), σ) := je_zret (show jm_fe 24 50 = some (jk_zret) from rfl) hx
theorem r_M_change_51 : je X 24 51 [some (.inr r), l1, l2, l3, l4] S σ = je X 24 52 [some (.inr r), l1, l2, l3, l4] (.inr r :: S) σ := je_aload (show jm_fe 24 51 = some (jk_aload 0 1) from rfl) rfl
theorem r_M_change_52 : je X 24 52 L (.inr (.inl (some a)) :: S) σ = je_v X 24 55 L S σ (jm_gf σ.1 a 9 6) := je_getf (show jm_fe 24 52 = some (jk_getf 9 6) from rfl)
theorem r_M_change_55 : je X 24 55 L S σ = je X 24 57 L (.inl 100 :: S) σ := je_const (show jm_fe 24 55 = some (jk_const (100) 2) from rfl)
theorem r_M_change_57 : je X 24 57 [l0, some (.inl x), l2, l3, l4] S σ = je X 24 58 [l0, some (.inl x), l2, l3, l4] (.inl x :: S) σ := je_iload (show jm_fe 24 57 = some (jk_iload 1 1) from rfl) rfl
theorem r_M_change_58 : je X 24 58 L (.inl q :: .inl p :: S) σ = je X 24 59 L (.inl (p * q) :: S) σ := je_bin (show jm_fe 24 58 = some (jb_imul) from rfl)
theorem r_M_change_59 : je X 24 59 [l0, l1, some (.inl x), l3, l4] S σ = je X 24 60 [l0, l1, some (.inl x), l3, l4] (.inl x :: S) σ := je_iload (show jm_fe 24 59 = some (jk_iload 2 1) from rfl) rfl
theorem r_M_change_60 : je X 24 60 L (.inl q :: .inl p :: S) σ = je X 24 61 L (.inl (p + q) :: S) σ := je_bin (show jm_fe 24 60 = some (jb_iadd) from rfl)
theorem r_M_change_61 : je X 24 61 [l0, l1, l2, some (.inl x), l4] S σ = je X 24 62 [l0, l1, l2, some (.inl x), l4] (.inl x :: S) σ := je_iload (show jm_fe 24 61 = some (jk_iload 3 1) from rfl) rfl
theorem r_M_change_62 : je X 24 62 L (.inl q :: .inl p :: .inr (.inl (some a)) :: S) σ = je_h X 24 63 L S σ.2 (jm_as σ.1 a 0 p q) := je_iast (show jm_fe 24 62 = some (jk_iast) from rfl)
theorem r_M_change_63 : je X 24 63 [some (.inr r), l1, l2, l3, l4] S σ = je X 24 64 [some (.inr r), l1, l2, l3, l4] (.inr r :: S) σ := je_aload (show jm_fe 24 63 = some (jk_aload 0 1) from rfl) rfl
theorem r_M_change_64 : je X 24 64 L (.inr (.inl (some a)) :: S) σ = je_v X 24 67 L S σ (jm_gf σ.1 a 9 7) := je_getf (show jm_fe 24 64 = some (jk_getf 9 7) from rfl)
theorem r_M_change_67 : je X 24 67 L S σ = je X 24 69 L (.inl 100 :: S) σ := je_const (show jm_fe 24 67 = some (jk_const (100) 2) from rfl)
theorem r_M_change_69 : je X 24 69 [l0, some (.inl x), l2, l3, l4] S σ = je X 24 70 [l0, some (.inl x), l2, l3, l4] (.inl x :: S) σ := je_iload (show jm_fe 24 69 = some (jk_iload 1 1) from rfl) rfl
theorem r_M_change_70 : je X 24 70 L (.inl q :: .inl p :: S) σ = je X 24 71 L (.inl (p * q) :: S) σ := je_bin (show jm_fe 24 70 = some (jb_imul) from rfl)
theorem r_M_change_71 : je X 24 71 [l0, l1, some (.inl x), l3, l4] S σ = je X 24 72 [l0, l1, some (.inl x), l3, l4] (.inl x :: S) σ := je_iload (show jm_fe 24 71 = some (jk_iload 2 1) from rfl) rfl
theorem r_M_change_72 : je X 24 72 L (.inl q :: .inl p :: S) σ = je X 24 73 L (.inl (p + q) :: S) σ := je_bin (show jm_fe 24 72 = some (jb_iadd) from rfl)
theorem r_M_change_73 : je X 24 73 [l0, l1, l2, l3, some (.inl x)] S σ = je X 24 75 [l0, l1, l2, l3, some (.inl x)] (.inl x :: S) σ := je_iload (show jm_fe 24 73 = some (jk_iload 4 2) from rfl) rfl
theorem r_M_change_75 : je X 24 75 L (.inl q :: .inl p :: .inr (.inl (some a)) :: S) σ = je_h X 24 76 L S σ.2 (jm_as σ.1 a 0 p q) := je_iast (show jm_fe 24 75 = some (jk_iast) from rfl)
theorem r_M_change_76 : je X 24 76 [some (.inr r), l1, l2, l3, l4] S σ = je X 24 77 [some (.inr r), l1, l2, l3, l4] (.inr r :: S) σ := je_aload (show jm_fe 24 76 = some (jk_aload 0 1) from rfl) rfl
theorem r_M_change_77 (hc : jm_cl σ.1 a = some 9) (h8 : S.length ≤ 8) : je X 24 77 L (.inr (.inl (some a)) :: S) σ = je_c X 24 80 L S (je X 21 0 [some (.inr (.inl (some a)))] [] σ) := je_callV (as := []) (S' := S) (show jm_fe 24 77 = some (jk_callV 21 0 9) from rfl) rfl hc h8
theorem r_M_change_80 : je X 24 80 L S σ = je X 24 81 L (.inl 1 :: S) σ := je_const (show jm_fe 24 80 = some (jk_const 1 1) from rfl)
theorem r_M_change_81 (hx : p = 0 ∨ p = 1) : je X 24 81 L [.inl p] σ = some (some (.inl p), σ) := je_zret (show jm_fe 24 81 = some (jk_zret) from rfl) hx
theorem r_M_isMark_0 : je X 25 0 [some (.inl x)] S σ = je X 25 1 [some (.inl x)] (.inl x :: S) σ := je_iload (show jm_fe 25 0 = some (jk_iload 0 1) from rfl) rfl
theorem r_M_isMark_1 : je X 25 1 L (.inl p :: S) σ = if p < 0 then je X 25 14 L S σ else je X 25 4 L S σ := je_if_lt (show jm_fe 25 1 = some (jk_if .lt 14) from rfl)
theorem r_M_isMark_4 : je X 25 4 [some (.inl x)] S σ = je X 25 5 [some (.inl x)] (.inl x :: S) σ := je_iload (show jm_fe 25 4 = some (jk_iload 0 1) from rfl) rfl
theorem r_M_isMark_5 : je X 25 5 L S σ = je X 25 7 L (.inl 100 :: S) σ := je_const (show jm_fe 25 5 = some (jk_const (100) 2) from rfl)
theorem r_M_isMark_7 : je X 25 7 L (.inl q :: .inl p :: S) σ = if q < p then je X 25 14 L S σ else je X 25 10 L S σ := je_icmp_gt (show jm_fe 25 7 = some (jk_icmp .gt 14) from rfl)
theorem r_M_isMark_10 : je X 25 10 L S σ = je X 25 11 L (.inl 1 :: S) σ := je_const (show jm_fe 25 10 = some (jk_const 1 1) from rfl)
theorem r_M_isMark_11 : je X 25 11 L S σ = je X 25 15 L S σ := je_goto (show jm_fe 25 11 = some (jk_goto 15) from rfl)
theorem r_M_isMark_14 : je X 25 14 L S σ = je X 25 15 L (.inl 0 :: S) σ := je_const (show jm_fe 25 14 = some (jk_const 0 1) from rfl)
theorem r_M_isMark_15 (hx : p = 0 ∨ p = 1) : je X 25 15 L [.inl p] σ = some (some (.inl p), σ) := je_zret (show jm_fe 25 15 = some (jk_zret) from rfl) hx
theorem r_M_handler_0 : je X 26 0 [some (.inr r), l1, l2, l3, l4, l5] S σ = je X 26 1 [some (.inr r), l1, l2, l3, l4, l5] (.inr r :: S) σ := je_aload (show jm_fe 26 0 = some (jk_aload 0 1) from rfl) rfl
theorem r_M_handler_1 : je X 26 1 L S σ = je X 26 2 L (.inl 0 :: S) σ := je_const (show jm_fe 26 1 = some (jk_const 0 1) from rfl)
theorem r_M_handler_2 : je X 26 2 L (v :: .inr (.inl (some a)) :: S) σ = je_h X 26 5 L S σ.2 (jm_pf σ.1 a 9 0 0 v) := je_putf (show jm_fe 26 2 = some (jk_putf 9 0 0) from rfl)
theorem r_M_handler_5 : je X 26 5 [some (.inr r), l1, l2, l3, l4, l5] S σ = je X 26 6 [some (.inr r), l1, l2, l3, l4, l5] (.inr r :: S) σ := je_aload (show jm_fe 26 5 = some (jk_aload 0 1) from rfl) rfl
theorem r_M_handler_6 : je X 26 6 [l0, some (.inl x), l2, l3, l4, l5] S σ = je X 26 7 [l0, some (.inl x), l2, l3, l4, l5] (.inl x :: S) σ := je_iload (show jm_fe 26 6 = some (jk_iload 1 1) from rfl) rfl
theorem r_M_handler_7 (hc : jm_cl σ.1 a = some 9) (h8 : S.length ≤ 8) : je X 26 7 L (v0 :: .inr (.inl (some a)) :: S) σ = je_c X 26 10 L S (je X 20 0 [some (.inr (.inl (some a))), some v0] [] σ) := je_callV (as := [v0]) (S' := S) (show jm_fe 26 7 = some (jk_callV 20 1 9) from rfl) rfl hc h8
theorem r_M_handler_10 : je X 26 10 L (.inl p :: S) σ = if p = 0 then je X 26 35 L S σ else je X 26 13 L S σ := je_if_eq (show jm_fe 26 10 = some (jk_if .eq 35) from rfl)
theorem r_M_handler_13 : je X 26 13 [some (.inr r), l1, l2, l3, l4, l5] S σ = je X 26 14 [some (.inr r), l1, l2, l3, l4, l5] (.inr r :: S) σ := je_aload (show jm_fe 26 13 = some (jk_aload 0 1) from rfl) rfl
theorem r_M_handler_14 : je X 26 14 L (.inr (.inl (some a)) :: S) σ = je_v X 26 17 L S σ (jm_gf σ.1 a 9 8) := je_getf (show jm_fe 26 14 = some (jk_getf 9 8) from rfl)
theorem r_M_handler_17 : je X 26 17 [some (.inr r), l1, l2, l3, l4, l5] S σ = je X 26 18 [some (.inr r), l1, l2, l3, l4, l5] (.inr r :: S) σ := je_aload (show jm_fe 26 17 = some (jk_aload 0 1) from rfl) rfl
theorem r_M_handler_18 : je X 26 18 [l0, some (.inl x), l2, l3, l4, l5] S σ = je X 26 19 [l0, some (.inl x), l2, l3, l4, l5] (.inl x :: S) σ := je_iload (show jm_fe 26 18 = some (jk_iload 1 1) from rfl) rfl
theorem r_M_handler_19 (hc : jm_cl σ.1 a = some 9) (h8 : S.length ≤ 8) : je X 26 19 L (v0 :: .inr (.inl (some a)) :: S) σ = je_c X 26 22 L S (je X 20 0 [some (.inr (.inl (some a))), some v0] [] σ) := je_callV (as := [v0]) (S' := S) (show jm_fe 26 19 = some (jk_callV 20 1 9) from rfl) rfl hc h8
theorem r_M_handler_22 : je X 26 22 L (.inl p :: S) σ = if p = 0 then je X 26 29 L S σ else je X 26 25 L S σ := je_if_eq (show jm_fe 26 22 = some (jk_if .eq 29) from rfl)
theorem r_M_handler_25 : je X 26 25 [l0, some (.inl x), l2, l3, l4, l5] S σ = je X 26 26 [l0, some (.inl x), l2, l3, l4, l5] (.inl x :: S) σ := je_iload (show jm_fe 26 25 = some (jk_iload 1 1) from rfl) rfl
theorem r_M_handler_26 : je X 26 26 L S σ = je X 26 30 L S σ := je_goto (show jm_fe 26 26 = some (jk_goto 30) from rfl)
theorem r_M_handler_29 : je X 26 29 L S σ = je X 26 30 L (.inl 0 :: S) σ := je_const (show jm_fe 26 29 = some (jk_const 0 1) from rfl)
theorem r_M_handler_30 : je X 26 30 L (.inl p :: .inr (.inl (some a)) :: S) σ = je_i X 26 31 L S σ (jm_al σ.1 a 0 p) := je_ald (show jm_fe 26 30 = some (jk_ald 0) from rfl)
theorem r_M_handler_31 : je X 26 31 L S σ = je X 26 32 L (.inl 4 :: S) σ := je_const (show jm_fe 26 31 = some (jk_const 4 1) from rfl)
theorem r_M_handler_32 : je X 26 32 L (.inl q :: .inl p :: S) σ = if p = q then je X 26 35 L S σ else je X 26 37 L S σ := je_icmp_ne (show jm_fe 26 32 = some (jk_icmp .ne 37) from rfl)
theorem r_M_handler_35 : je X 26 35 L S σ = je X 26 36 L (.inl 0 :: S) σ := je_const (show jm_fe 26 35 = some (jk_const 0 1) from rfl)
theorem r_M_handler_36 (hx : p = 0 ∨ p = 1) : je X 26 36 L [.inl p] σ = some (some (.inl p), σ) := je_zret (show jm_fe 26 36 = some (jk_zret) from rfl) hx
theorem r_M_handler_37 : je X 26 37 [l0, l1, some (.inl x), l3, l4, l5] S σ = je X 26 38 [l0, l1, some (.inl x), l3, l4, l5] (.inl x :: S) σ := je_iload (show jm_fe 26 37 = some (jk_iload 2 1) from rfl) rfl
theorem r_M_handler_38 (h8 : S.length ≤ 8) : je X 26 38 L (v0 :: S) σ = je_c X 26 41 L S (je X 25 0 [some v0] [] σ) := je_callS (as := [v0]) (S' := S) (show jm_fe 26 38 = some (jk_callS 25 1) from rfl) rfl h8
theorem r_M_handler_41 : je X 26 41 L (.inl p :: S) σ = if p = 0 then je X 26 59 L S σ else je X 26 44 L S σ := je_if_eq (show jm_fe 26 41 = some (jk_if .eq 59) from rfl)
theorem r_M_handler_44 : je X 26 44 [l0, l1, l2, some (.inl x), l4, l5] S σ = je X 26 45 [l0, l1, l2, some (.inl x), l4, l5] (.inl x :: S) σ := je_iload (show jm_fe 26 44 = some (jk_iload 3 1) from rfl) rfl
theorem r_M_handler_45 (h8 : S.length ≤ 8) : je X 26 45 L (v0 :: S) σ = je_c X 26 48 L S (je X 25 0 [some v0] [] σ) := je_callS (as := [v0]) (S' := S) (show jm_fe 26 45 = some (jk_callS 25 1) from rfl) rfl h8
theorem r_M_handler_48 : je X 26 48 L (.inl p :: S) σ = if p = 0 then je X 26 59 L S σ else je X 26 51 L S σ := je_if_eq (show jm_fe 26 48 = some (jk_if .eq 59) from rfl)
theorem r_M_handler_51 : je X 26 51 [l0, l1, l2, l3, some (.inl x), l5] S σ = je X 26 53 [l0, l1, l2, l3, some (.inl x), l5] (.inl x :: S) σ := je_iload (show jm_fe 26 51 = some (jk_iload 4 2) from rfl) rfl
theorem r_M_handler_53 (h8 : S.length ≤ 8) : je X 26 53 L (v0 :: S) σ = je_c X 26 56 L S (je X 25 0 [some v0] [] σ) := je_callS (as := [v0]) (S' := S) (show jm_fe 26 53 = some (jk_callS 25 1) from rfl) rfl h8
theorem r_M_handler_56 : je X 26 56 L (.inl p :: S) σ = if p = 0 then je X 26 59 L S σ else je X 26 61 L S σ := je_if_ne (show jm_fe 26 56 = some (jk_if .ne 61) from rfl)
theorem r_M_handler_59 : je X 26 59 L S σ = je X 26 60 L (.inl 0 :: S) σ := je_const (show jm_fe 26 59 = some (jk_const 0 1) from rfl)
theorem r_M_handler_60 (hx : p = 0 ∨ p = 1) : je X 26 60 L [.inl p] σ = some (some (.inl p), σ) := je_zret (show jm_fe 26 60 = some (jk_zret) from rfl) hx
theorem r_M_handler_61 : je X 26 61 L S σ = je X 26 62 L (.inl 4 :: S) σ := je_const (show jm_fe 26 61 = some (jk_const 4 1) from rfl)
theorem r_M_handler_62 : je X 26 62 [l0, some (.inl x), l2, l3, l4, l5] S σ = je X 26 63 [l0, some (.inl x), l2, l3, l4, l5] (.inl x :: S) σ := je_iload (show jm_fe 26 62 = some (jk_iload 1 1) from rfl) rfl
theorem r_M_handler_63 : je X 26 63 L (.inl q :: .inl p :: S) σ = je X 26 64 L (.inl (p * q) :: S) σ := je_bin (show jm_fe 26 63 = some (jb_imul) from rfl)
theorem r_M_handler_64 : je X 26 64 [some (.inr r), l1, l2, l3, l4, l5] S σ = je X 26 65 [some (.inr r), l1, l2, l3, l4, l5] (.inr r :: S) σ := je_aload (show jm_fe 26 64 = some (jk_aload 0 1) from rfl) rfl
theorem r_M_handler_65 : je X 26 65 L (.inr (.inl (some a)) :: S) σ = je_v X 26 68 L S σ (jm_gf σ.1 a 9 8) := je_getf (show jm_fe 26 65 = some (jk_getf 9 8) from rfl)
theorem r_M_handler_68 : je X 26 68 [l0, some (.inl x), l2, l3, l4, l5] S σ = je X 26 69 [l0, some (.inl x), l2, l3, l4, l5] (.inl x :: S) σ := je_iload (show jm_fe 26 68 = some (jk_iload 1 1) from rfl) rfl
theorem r_M_handler_69 : je X 26 69 L (.inl p :: .inr (.inl (some a)) :: S) σ = je_i X 26 70 L S σ (jm_al σ.1 a 0 p) := je_ald (show jm_fe 26 69 = some (jk_ald 0) from rfl)
theorem r_M_handler_70 : je X 26 70 L (.inl q :: .inl p :: S) σ = je X 26 71 L (.inl (p + q) :: S) σ := je_bin (show jm_fe 26 70 = some (jb_iadd) from rfl)
theorem r_M_handler_71 : je X 26 71 [l0, l1, l2, l3, l4, l5] (.inl x :: S) σ = je X 26 73 [l0, l1, l2, l3, l4, some (.inl x)] S σ := je_istore (show jm_fe 26 71 = some (jk_istore 5 2) from rfl) (Nat.le_of_ble_eq_true rfl)
theorem r_M_handler_73 : je X 26 73 [some (.inr r), l1, l2, l3, l4, l5] S σ = je X 26 74 [some (.inr r), l1, l2, l3, l4, l5] (.inr r :: S) σ := je_aload (show jm_fe 26 73 = some (jk_aload 0 1) from rfl) rfl
theorem r_M_handler_74 : je X 26 74 L (.inr (.inl (some a)) :: S) σ = je_v X 26 77 L S σ (jm_gf σ.1 a 9 9) := je_getf (show jm_fe 26 74 = some (jk_getf 9 9) from rfl)
theorem r_M_handler_77 : je X 26 77 [l0, l1, l2, l3, l4, some (.inl x)] S σ = je X 26 79 [l0, l1, l2, l3, l4, some (.inl x)] (.inl x :: S) σ := je_iload (show jm_fe 26 77 = some (jk_iload 5 2) from rfl) rfl
theorem r_M_handler_79 : je X 26 79 [l0, l1, some (.inl x), l3, l4, l5] S σ = je X 26 80 [l0, l1, some (.inl x), l3, l4, l5] (.inl x :: S) σ := je_iload (show jm_fe 26 79 = some (jk_iload 2 1) from rfl) rfl
theorem r_M_handler_80 : je X 26 80 L (.inl q :: .inl p :: .inr (.inl (some a)) :: S) σ = je_h X 26 81 L S σ.2 (jm_as σ.1 a 0 p q) := je_iast (show jm_fe 26 80 = some (jk_iast) from rfl)
theorem r_M_handler_81 : je X 26 81 [some (.inr r), l1, l2, l3, l4, l5] S σ = je X 26 82 [some (.inr r), l1, l2, l3, l4, l5] (.inr r :: S) σ := je_aload (show jm_fe 26 81 = some (jk_aload 0 1) from rfl) rfl
theorem r_M_handler_82 : je X 26 82 L (.inr (.inl (some a)) :: S) σ = je_v X 26 85 L S σ (jm_gf σ.1 a 9 10) := je_getf (show jm_fe 26 82 = some (jk_getf 9 10) from rfl)
theorem r_M_handler_85 : je X 26 85 [l0, l1, l2, l3, l4, some (.inl x)] S σ = je X 26 87 [l0, l1, l2, l3, l4, some (.inl x)] (.inl x :: S) σ := je_iload (show jm_fe 26 85 = some (jk_iload 5 2) from rfl) rfl
theorem r_M_handler_87 : je X 26 87 [l0, l1, l2, some (.inl x), l4, l5] S σ = je X 26 88 [l0, l1, l2, some (.inl x), l4, l5] (.inl x :: S) σ := je_iload (show jm_fe 26 87 = some (jk_iload 3 1) from rfl) rfl
theorem r_M_handler_88 : je X 26 88 L (.inl q :: .inl p :: .inr (.inl (some a)) :: S) σ = je_h X 26 89 L S σ.2 (jm_as σ.1 a 0 p q) := je_iast (show jm_fe 26 88 = some (jk_iast) from rfl)
theorem r_M_handler_89 : je X 26 89 [some (.inr r), l1, l2, l3, l4, l5] S σ = je X 26 90 [some (.inr r), l1, l2, l3, l4, l5] (.inr r :: S) σ := je_aload (show jm_fe 26 89 = some (jk_aload 0 1) from rfl) rfl
theorem r_M_handler_90 : je X 26 90 L (.inr (.inl (some a)) :: S) σ = je_v X 26 93 L S σ (jm_gf σ.1 a 9 11) := je_getf (show jm_fe 26 90 = some (jk_getf 9 11) from rfl)
theorem r_M_handler_93 : je X 26 93 [l0, l1, l2, l3, l4, some (.inl x)] S σ = je X 26 95 [l0, l1, l2, l3, l4, some (.inl x)] (.inl x :: S) σ := je_iload (show jm_fe 26 93 = some (jk_iload 5 2) from rfl) rfl
theorem r_M_handler_95 : je X 26 95 [l0, l1, l2, l3, some (.inl x), l5] S σ = je X 26 97 [l0, l1, l2, l3, some (.inl x), l5] (.inl x :: S) σ := je_iload (show jm_fe 26 95 = some (jk_iload 4 2) from rfl) rfl
theorem r_M_handler_97 : je X 26 97 L (.inl q :: .inl p :: .inr (.inl (some a)) :: S) σ = je_h X 26 98 L S σ.2 (jm_as σ.1 a 0 p q) := je_iast (show jm_fe 26 97 = some (jk_iast) from rfl)
theorem r_M_handler_98 : je X 26 98 [some (.inr r), l1, l2, l3, l4, l5] S σ = je X 26 99 [some (.inr r), l1, l2, l3, l4, l5] (.inr r :: S) σ := je_aload (show jm_fe 26 98 = some (jk_aload 0 1) from rfl) rfl
theorem r_M_handler_99 : je X 26 99 L (.inr (.inl (some a)) :: S) σ = je_v X 26 102 L S σ (jm_gf σ.1 a 9 12) := je_getf (show jm_fe 26 99 = some (jk_getf 9 12) from rfl)
theorem r_M_handler_102 : je X 26 102 [l0, l1, l2, l3, l4, some (.inl x)] S σ = je X 26 104 [l0, l1, l2, l3, l4, some (.inl x)] (.inl x :: S) σ := je_iload (show jm_fe 26 102 = some (jk_iload 5 2) from rfl) rfl
theorem r_M_handler_104 : je X 26 104 L S σ = je X 26 105 L (.inl 1 :: S) σ := je_const (show jm_fe 26 104 = some (jk_const 1 1) from rfl)
theorem r_M_handler_105 : je X 26 105 L (.inl q :: .inl p :: .inr (.inl (some a)) :: S) σ = je_h X 26 106 L S σ.2 (jm_as σ.1 a 1 p (vp_nar .boolean q)) := je_zast (show jm_fe 26 105 = some (jk_zast) from rfl)
theorem r_M_handler_106 : je X 26 106 [some (.inr r), l1, l2, l3, l4, l5] S σ = je X 26 107 [some (.inr r), l1, l2, l3, l4, l5] (.inr r :: S) σ := je_aload (show jm_fe 26 106 = some (jk_aload 0 1) from rfl) rfl
theorem r_M_handler_107 : je X 26 107 L (.inr (.inl (some a)) :: S) σ = je_v X 26 110 L S σ (jm_gf σ.1 a 9 8) := je_getf (show jm_fe 26 107 = some (jk_getf 9 8) from rfl)
theorem r_M_handler_110 : je X 26 110 [l0, some (.inl x), l2, l3, l4, l5] S σ = je X 26 111 [l0, some (.inl x), l2, l3, l4, l5] (.inl x :: S) σ := je_iload (show jm_fe 26 110 = some (jk_iload 1 1) from rfl) rfl
theorem r_M_handler_111 : je X 26 111 L (v :: w :: S) σ = je X 26 112 L (v :: w :: v :: w :: S) σ := je_dup2 (show jm_fe 26 111 = some (jk_dup2) from rfl)
theorem r_M_handler_112 : je X 26 112 L (.inl p :: .inr (.inl (some a)) :: S) σ = je_i X 26 113 L S σ (jm_al σ.1 a 0 p) := je_ald (show jm_fe 26 112 = some (jk_ald 0) from rfl)
theorem r_M_handler_113 : je X 26 113 L S σ = je X 26 114 L (.inl 1 :: S) σ := je_const (show jm_fe 26 113 = some (jk_const 1 1) from rfl)
theorem r_M_handler_114 : je X 26 114 L (.inl q :: .inl p :: S) σ = je X 26 115 L (.inl (p + q) :: S) σ := je_bin (show jm_fe 26 114 = some (jb_iadd) from rfl)
theorem r_M_handler_115 : je X 26 115 L (.inl q :: .inl p :: .inr (.inl (some a)) :: S) σ = je_h X 26 116 L S σ.2 (jm_as σ.1 a 0 p q) := je_iast (show jm_fe 26 115 = some (jk_iast) from rfl)
theorem r_M_handler_116 : je X 26 116 [some (.inr r), l1, l2, l3, l4, l5] S σ = je X 26 117 [some (.inr r), l1, l2, l3, l4, l5] (.inr r :: S) σ := je_aload (show jm_fe 26 116 = some (jk_aload 0 1) from rfl) rfl
theorem r_M_handler_117 (hc : jm_cl σ.1 a = some 9) (h8 : S.length ≤ 8) : je X 26 117 L (.inr (.inl (some a)) :: S) σ = je_c X 26 120 L S (je X 21 0 [some (.inr (.inl (some a)))] [] σ) := je_callV (as := []) (S' := S) (show jm_fe 26 117 = some (jk_callV 21 0 9) from rfl) rfl hc h8
theorem r_M_handler_120 : je X 26 120 L S σ = je X 26 121 L (.inl 1 :: S) σ := je_const (show jm_fe 26 120 = some (jk_const 1 1) from rfl)
theorem r_M_handler_121 (hx : p = 0 ∨ p = 1) : je X 26 121 L [.inl p] σ = some (some (.inl p), σ) := je_zret (show jm_fe 26 121 = some (jk_zret) from rfl) hx
theorem r_M_only_0 : je X 27 0 [some (.inr r), l1, l2, l3] S σ = je X 27 1 [some (.inr r), l1, l2, l3] (.inr r :: S) σ := je_aload (show jm_fe 27 0 = some (jk_aload 0 1) from rfl) rfl
theorem r_M_only_1 : je X 27 1 L S σ = je X 27 2 L (.inl 0 :: S) σ := je_const (show jm_fe 27 1 = some (jk_const 0 1) from rfl)
theorem r_M_only_2 : je X 27 2 L (v :: .inr (.inl (some a)) :: S) σ = je_h X 27 5 L S σ.2 (jm_pf σ.1 a 9 0 0 v) := je_putf (show jm_fe 27 2 = some (jk_putf 9 0 0) from rfl)
theorem r_M_only_5 : je X 27 5 [some (.inr r), l1, l2, l3] S σ = je X 27 6 [some (.inr r), l1, l2, l3] (.inr r :: S) σ := je_aload (show jm_fe 27 5 = some (jk_aload 0 1) from rfl) rfl
theorem r_M_only_6 : je X 27 6 [l0, some (.inl x), l2, l3] S σ = je X 27 7 [l0, some (.inl x), l2, l3] (.inl x :: S) σ := je_iload (show jm_fe 27 6 = some (jk_iload 1 1) from rfl) rfl
theorem r_M_only_7 (hc : jm_cl σ.1 a = some 9) (h8 : S.length ≤ 8) : je X 27 7 L (v0 :: .inr (.inl (some a)) :: S) σ = je_c X 27 10 L S (je X 20 0 [some (.inr (.inl (some a))), some v0] [] σ) := je_callV (as := [v0]) (S' := S) (show jm_fe 27 7 = some (jk_callV 20 1 9) from rfl) rfl hc h8
theorem r_M_only_10 : je X 27 10 L (.inl p :: S) σ = if p = 0 then je X 27 34 L S σ else je X 27 13 L S σ := je_if_eq (show jm_fe 27 10 = some (jk_if .eq 34) from rfl)
theorem r_M_only_13 : je X 27 13 [some (.inr r), l1, l2, l3] S σ = je X 27 14 [some (.inr r), l1, l2, l3] (.inr r :: S) σ := je_aload (show jm_fe 27 13 = some (jk_aload 0 1) from rfl) rfl
theorem r_M_only_14 : je X 27 14 L (.inr (.inl (some a)) :: S) σ = je_v X 27 17 L S σ (jm_gf σ.1 a 9 8) := je_getf (show jm_fe 27 14 = some (jk_getf 9 8) from rfl)
theorem r_M_only_17 : je X 27 17 [some (.inr r), l1, l2, l3] S σ = je X 27 18 [some (.inr r), l1, l2, l3] (.inr r :: S) σ := je_aload (show jm_fe 27 17 = some (jk_aload 0 1) from rfl) rfl
theorem r_M_only_18 : je X 27 18 [l0, some (.inl x), l2, l3] S σ = je X 27 19 [l0, some (.inl x), l2, l3] (.inl x :: S) σ := je_iload (show jm_fe 27 18 = some (jk_iload 1 1) from rfl) rfl
theorem r_M_only_19 (hc : jm_cl σ.1 a = some 9) (h8 : S.length ≤ 8) : je X 27 19 L (v0 :: .inr (.inl (some a)) :: S) σ = je_c X 27 22 L S (je X 20 0 [some (.inr (.inl (some a))), some v0] [] σ) := je_callV (as := [v0]) (S' := S) (show jm_fe 27 19 = some (jk_callV 20 1 9) from rfl) rfl hc h8
theorem r_M_only_22 : je X 27 22 L (.inl p :: S) σ = if p = 0 then je X 27 29 L S σ else je X 27 25 L S σ := je_if_eq (show jm_fe 27 22 = some (jk_if .eq 29) from rfl)
theorem r_M_only_25 : je X 27 25 [l0, some (.inl x), l2, l3] S σ = je X 27 26 [l0, some (.inl x), l2, l3] (.inl x :: S) σ := je_iload (show jm_fe 27 25 = some (jk_iload 1 1) from rfl) rfl
theorem r_M_only_26 : je X 27 26 L S σ = je X 27 30 L S σ := je_goto (show jm_fe 27 26 = some (jk_goto 30) from rfl)
theorem r_M_only_29 : je X 27 29 L S σ = je X 27 30 L (.inl 0 :: S) σ := je_const (show jm_fe 27 29 = some (jk_const 0 1) from rfl)
theorem r_M_only_30 : je X 27 30 L (.inl p :: .inr (.inl (some a)) :: S) σ = je_i X 27 31 L S σ (jm_al σ.1 a 0 p) := je_ald (show jm_fe 27 30 = some (jk_ald 0) from rfl)
theorem r_M_only_31 : je X 27 31 L (.inl p :: S) σ = if p = 0 then je X 27 34 L S σ else je X 27 36 L S σ := je_if_ne (show jm_fe 27 31 = some (jk_if .ne 36) from rfl)
theorem r_M_only_34 : je X 27 34 L S σ = je X 27 35 L (.inl 0 :: S) σ := je_const (show jm_fe 27 34 = some (jk_const 0 1) from rfl)
theorem r_M_only_35 (hx : p = 0 ∨ p = 1) : je X 27 35 L [.inl p] σ = some (some (.inl p), σ) := je_zret (show jm_fe 27 35 = some (jk_zret) from rfl) hx
theorem r_M_only_36 : je X 27 36 L S σ = je X 27 37 L (.inl 4 :: S) σ := je_const (show jm_fe 27 36 = some (jk_const 4 1) from rfl)
theorem r_M_only_37 : je X 27 37 [l0, some (.inl x), l2, l3] S σ = je X 27 38 [l0, some (.inl x), l2, l3] (.inl x :: S) σ := je_iload (show jm_fe 27 37 = some (jk_iload 1 1) from rfl) rfl
theorem r_M_only_38 : je X 27 38 L (.inl q :: .inl p :: S) σ = je X 27 39 L (.inl (p * q) :: S) σ := je_bin (show jm_fe 27 38 = some (jb_imul) from rfl)
theorem r_M_only_39 : je X 27 39 [some (.inr r), l1, l2, l3] S σ = je X 27 40 [some (.inr r), l1, l2, l3] (.inr r :: S) σ := je_aload (show jm_fe 27 39 = some (jk_aload 0 1) from rfl) rfl
theorem r_M_only_40 : je X 27 40 L (.inr (.inl (some a)) :: S) σ = je_v X 27 43 L S σ (jm_gf σ.1 a 9 8) := je_getf (show jm_fe 27 40 = some (jk_getf 9 8) from rfl)
theorem r_M_only_43 : je X 27 43 [l0, some (.inl x), l2, l3] S σ = je X 27 44 [l0, some (.inl x), l2, l3] (.inl x :: S) σ := je_iload (show jm_fe 27 43 = some (jk_iload 1 1) from rfl) rfl
theorem r_M_only_44 : je X 27 44 L (.inl p :: .inr (.inl (some a)) :: S) σ = je_i X 27 45 L S σ (jm_al σ.1 a 0 p) := je_ald (show jm_fe 27 44 = some (jk_ald 0) from rfl)
theorem r_M_only_45 : je X 27 45 L (.inl q :: .inl p :: S) σ = je X 27 46 L (.inl (p + q) :: S) σ := je_bin (show jm_fe 27 45 = some (jb_iadd) from rfl)
theorem r_M_only_46 : je X 27 46 L S σ = je X 27 47 L (.inl 1 :: S) σ := je_const (show jm_fe 27 46 = some (jk_const 1 1) from rfl)
theorem r_M_only_47 : je X 27 47 L (.inl q :: .inl p :: S) σ = je X 27 48 L (.inl (p - q) :: S) σ := je_bin (show jm_fe 27 47 = some (jb_isub) from rfl)
theorem r_M_only_48 : je X 27 48 [l0, l1, l2, l3] (.inl x :: S) σ = je X 27 49 [l0, l1, l2, some (.inl x)] S σ := je_istore (show jm_fe 27 48 = some (jk_istore 3 1) from rfl) (Nat.le_of_ble_eq_true rfl)
theorem r_M_only_49 : je X 27 49 [some (.inr r), l1, l2, l3] S σ = je X 27 50 [some (.inr r), l1, l2, l3] (.inr r :: S) σ := je_aload (show jm_fe 27 49 = some (jk_aload 0 1) from rfl) rfl
theorem r_M_only_50 : je X 27 50 L (.inr (.inl (some a)) :: S) σ = je_v X 27 53 L S σ (jm_gf σ.1 a 9 12) := je_getf (show jm_fe 27 50 = some (jk_getf 9 12) from rfl)
theorem r_M_only_53 : je X 27 53 [l0, l1, l2, some (.inl x)] S σ = je X 27 54 [l0, l1, l2, some (.inl x)] (.inl x :: S) σ := je_iload (show jm_fe 27 53 = some (jk_iload 3 1) from rfl) rfl
theorem r_M_only_54 : je X 27 54 L S σ = je X 27 55 L (.inl 0 :: S) σ := je_const (show jm_fe 27 54 = some (jk_const 0 1) from rfl)
theorem r_M_only_55 : je X 27 55 L (.inl q :: .inl p :: .inr (.inl (some a)) :: S) σ = je_h X 27 56 L S σ.2 (jm_as σ.1 a 1 p (vp_nar .boolean q)) := je_zast (show jm_fe 27 55 = some (jk_zast) from rfl)
theorem r_M_only_56 : je X 27 56 [some (.inr r), l1, l2, l3] S σ = je X 27 57 [some (.inr r), l1, l2, l3] (.inr r :: S) σ := je_aload (show jm_fe 27 56 = some (jk_aload 0 1) from rfl) rfl
theorem r_M_only_57 : je X 27 57 L (.inr (.inl (some a)) :: S) σ = je_v X 27 60 L S σ (jm_gf σ.1 a 9 13) := je_getf (show jm_fe 27 57 = some (jk_getf 9 13) from rfl)
theorem r_M_only_60 : je X 27 60 [l0, l1, l2, some (.inl x)] S σ = je X 27 61 [l0, l1, l2, some (.inl x)] (.inl x :: S) σ := je_iload (show jm_fe 27 60 = some (jk_iload 3 1) from rfl) rfl
theorem r_M_only_61 : je X 27 61 [l0, l1, some (.inl x), l3] S σ = je X 27 62 [l0, l1, some (.inl x), l3] (.inl x :: S) σ := je_iload (show jm_fe 27 61 = some (jk_iload 2 1) from rfl) rfl
theorem r_M_only_62 : je X 27 62 L (.inl q :: .inl p :: .inr (.inl (some a)) :: S) σ = je_h X 27 63 L S σ.2 (jm_as σ.1 a 0 p q) := je_iast (show jm_fe 27 62 = some (jk_iast) from rfl)
theorem r_M_only_63 : je X 27 63 [some (.inr r), l1, l2, l3] S σ = je X 27 64 [some (.inr r), l1, l2, l3] (.inr r :: S) σ := je_aload (show jm_fe 27 63 = some (jk_aload 0 1) from rfl) rfl
theorem r_M_only_64 (hc : jm_cl σ.1 a = some 9) (h8 : S.length ≤ 8) : je X 27 64 L (.inr (.inl (some a)) :: S) σ = je_c X 27 67 L S (je X 21 0 [some (.inr (.inl (some a)))] [] σ) := je_callV (as := []) (S' := S) (show jm_fe 27 64 = some (jk_callV 21 0 9) from rfl) rfl hc h8
theorem r_M_only_67 : je X 27 67 L S σ = je X 27 68 L (.inl 1 :: S) σ := je_const (show jm_fe 27 67 = some (jk_const 1 1) from rfl)
theorem r_M_only_68 (hx : p = 0 ∨ p = 1) : je X 27 68 L [.inl p] σ = some (some (.inl p), σ) := je_zret (show jm_fe 27 68 = some (jk_zret) from rfl) hx
theorem r_M_clear_0 : je X 28 0 [some (.inr r)] S σ = je X 28 1 [some (.inr r)] (.inr r :: S) σ := je_aload (show jm_fe 28 0 = some (jk_aload 0 1) from rfl) rfl
theorem r_M_clear_1 : je X 28 1 L S σ = je X 28 2 L (.inl 0 :: S) σ := je_const (show jm_fe 28 1 = some (jk_const 0 1) from rfl)
theorem r_M_clear_2 : je X 28 2 L (v :: .inr (.inl (some a)) :: S) σ = je_h X 28 5 L S σ.2 (jm_pf σ.1 a 9 0 0 v) := je_putf (show jm_fe 28 2 = some (jk_putf 9 0 0) from rfl)
theorem r_M_clear_5 : je X 28 5 [some (.inr r)] S σ = je X 28 6 [some (.inr r)] (.inr r :: S) σ := je_aload (show jm_fe 28 5 = some (jk_aload 0 1) from rfl) rfl
theorem r_M_clear_6 : je X 28 6 L S σ = je X 28 7 L (.inl 0 :: S) σ := je_const (show jm_fe 28 6 = some (jk_const 0 1) from rfl)
theorem r_M_clear_7 : je X 28 7 L (v :: .inr (.inl (some a)) :: S) σ = je_h X 28 10 L S σ.2 (jm_pf σ.1 a 9 1 0 v) := je_putf (show jm_fe 28 7 = some (jk_putf 9 1 0) from rfl)
theorem r_M_clear_10 : je X 28 10 [some (.inr r)] S σ = je X 28 11 [some (.inr r)] (.inr r :: S) σ := je_aload (show jm_fe 28 10 = some (jk_aload 0 1) from rfl) rfl
theorem r_M_clear_11 (hc : jm_cl σ.1 a = some 9) (h8 : S.length ≤ 8) : je X 28 11 L (.inr (.inl (some a)) :: S) σ = je_c X 28 14 L S (je X 21 0 [some (.inr (.inl (some a)))] [] σ) := je_callV (as := []) (S' := S) (show jm_fe 28 11 = some (jk_callV 21 0 9) from rfl) rfl hc h8
theorem r_M_clear_14 : je X 28 14 L [] σ = some (none, σ) := je_ret (show jm_fe 28 14 = some (jk_ret) from rfl)
theorem r_M_answer_0 : je X 29 0 [some (.inr r), l1] S σ = je X 29 1 [some (.inr r), l1] (.inr r :: S) σ := je_aload (show jm_fe 29 0 = some (jk_aload 0 1) from rfl) rfl
theorem r_M_answer_1 : je X 29 1 L S σ = je X 29 2 L (.inl 0 :: S) σ := je_const (show jm_fe 29 1 = some (jk_const 0 1) from rfl)
theorem r_M_answer_2 : je X 29 2 L (v :: .inr (.inl (some a)) :: S) σ = je_h X 29 5 L S σ.2 (jm_pf σ.1 a 9 0 0 v) := je_putf (show jm_fe 29 2 = some (jk_putf 9 0 0) from rfl)
theorem r_M_answer_5 : je X 29 5 [some (.inr r), l1] S σ = je X 29 6 [some (.inr r), l1] (.inr r :: S) σ := je_aload (show jm_fe 29 5 = some (jk_aload 0 1) from rfl) rfl
theorem r_M_answer_6 : je X 29 6 L (.inr (.inl (some a)) :: S) σ = je_v X 29 9 L S σ (jm_gf σ.1 a 9 15) := je_getf (show jm_fe 29 6 = some (jk_getf 9 15) from rfl)
theorem r_M_answer_9 : je X 29 9 L S σ = je X 29 11 L (.inl 64 :: S) σ := je_const (show jm_fe 29 9 = some (jk_const (64) 2) from rfl)
theorem r_M_answer_11 : je X 29 11 L (.inl q :: .inl p :: S) σ = if p = q then je X 29 14 L S σ else je X 29 16 L S σ := je_icmp_ne (show jm_fe 29 11 = some (jk_icmp .ne 16) from rfl)
theorem r_M_answer_14 : je X 29 14 L S σ = je X 29 15 L (.inl (-1) :: S) σ := je_const (show jm_fe 29 14 = some (jk_const (-1) 1) from rfl)
theorem r_M_answer_15 : je X 29 15 L [.inl p] σ = some (some (.inl p), σ) := je_iret (show jm_fe 29 15 = some (jk_iret) from rfl)
theorem r_M_answer_16 : je X 29 16 [some (.inr r), l1] S σ = je X 29 17 [some (.inr r), l1] (.inr r :: S) σ := je_aload (show jm_fe 29 16 = some (jk_aload 0 1) from rfl) rfl
theorem r_M_answer_17 : je X 29 17 L (.inr (.inl (some a)) :: S) σ = je_v X 29 20 L S σ (jm_gf σ.1 a 9 14) := je_getf (show jm_fe 29 17 = some (jk_getf 9 14) from rfl)
theorem r_M_answer_20 : je X 29 20 [some (.inr r), l1] S σ = je X 29 21 [some (.inr r), l1] (.inr r :: S) σ := je_aload (show jm_fe 29 20 = some (jk_aload 0 1) from rfl) rfl
theorem r_M_answer_21 : je X 29 21 L (.inr (.inl (some a)) :: S) σ = je_v X 29 24 L S σ (jm_gf σ.1 a 9 15) := je_getf (show jm_fe 29 21 = some (jk_getf 9 15) from rfl)
theorem r_M_answer_24 : je X 29 24 [l0, some (.inl x)] S σ = je X 29 25 [l0, some (.inl x)] (.inl x :: S) σ := je_iload (show jm_fe 29 24 = some (jk_iload 1 1) from rfl) rfl
theorem r_M_answer_25 : je X 29 25 L (.inl q :: .inl p :: .inr (.inl (some a)) :: S) σ = je_h X 29 26 L S σ.2 (jm_as σ.1 a 0 p q) := je_iast (show jm_fe 29 25 = some (jk_iast) from rfl)
theorem r_M_answer_26 : je X 29 26 [some (.inr r), l1] S σ = je X 29 27 [some (.inr r), l1] (.inr r :: S) σ := je_aload (show jm_fe 29 26 = some (jk_aload 0 1) from rfl) rfl
theorem r_M_answer_27 : je X 29 27 L (v :: S) σ = je X 29 28 L (v :: v :: S) σ := je_dup (show jm_fe 29 27 = some (jk_dup) from rfl)
theorem r_M_answer_28 : je X 29 28 L (.inr (.inl (some a)) :: S) σ = je_v X 29 31 L S σ (jm_gf σ.1 a 9 15) := je_getf (show jm_fe 29 28 = some (jk_getf 9 15) from rfl)
theorem r_M_answer_31 : je X 29 31 L S σ = je X 29 32 L (.inl 1 :: S) σ := je_const (show jm_fe 29 31 = some (jk_const 1 1) from rfl)
theorem r_M_answer_32 : je X 29 32 L (.inl q :: .inl p :: S) σ = je X 29 33 L (.inl (p + q) :: S) σ := je_bin (show jm_fe 29 32 = some (jb_iadd) from rfl)
theorem r_M_answer_33 : je X 29 33 L (v :: .inr (.inl (some a)) :: S) σ = je_h X 29 36 L S σ.2 (jm_pf σ.1 a 9 15 0 v) := je_putf (show jm_fe 29 33 = some (jk_putf 9 15 0) from rfl)
theorem r_M_answer_36 : je X 29 36 [some (.inr r), l1] S σ = je X 29 37 [some (.inr r), l1] (.inr r :: S) σ := je_aload (show jm_fe 29 36 = some (jk_aload 0 1) from rfl) rfl
theorem r_M_answer_37 : je X 29 37 L (.inr (.inl (some a)) :: S) σ = je_v X 29 40 L S σ (jm_gf σ.1 a 9 15) := je_getf (show jm_fe 29 37 = some (jk_getf 9 15) from rfl)
theorem r_M_answer_40 : je X 29 40 L [.inl p] σ = some (some (.inl p), σ) := je_iret (show jm_fe 29 40 = some (jk_iret) from rfl)
theorem r_M_forget_0 : je X 30 0 [some (.inr r)] S σ = je X 30 1 [some (.inr r)] (.inr r :: S) σ := je_aload (show jm_fe 30 0 = some (jk_aload 0 1) from rfl) rfl
theorem r_M_forget_1 : je X 30 1 L S σ = je X 30 2 L (.inl 0 :: S) σ := je_const (show jm_fe 30 1 = some (jk_const 0 1) from rfl)
theorem r_M_forget_2 : je X 30 2 L (v :: .inr (.inl (some a)) :: S) σ = je_h X 30 5 L S σ.2 (jm_pf σ.1 a 9 0 0 v) := je_putf (show jm_fe 30 2 = some (jk_putf 9 0 0) from rfl)
theorem r_M_forget_5 : je X 30 5 [some (.inr r)] S σ = je X 30 6 [some (.inr r)] (.inr r :: S) σ := je_aload (show jm_fe 30 5 = some (jk_aload 0 1) from rfl) rfl
theorem r_M_forget_6 : je X 30 6 L S σ = je X 30 7 L (.inl 0 :: S) σ := je_const (show jm_fe 30 6 = some (jk_const 0 1) from rfl)
theorem r_M_forget_7 : je X 30 7 L (v :: .inr (.inl (some a)) :: S) σ = je_h X 30 10 L S σ.2 (jm_pf σ.1 a 9 15 0 v) := je_putf (show jm_fe 30 7 = some (jk_putf 9 15 0) from rfl)
theorem r_M_forget_10 : je X 30 10 L [] σ = some (none, σ) := je_ret (show jm_fe 30 10 = some (jk_ret) from rfl)
theorem r_M_begin_0 : je X 31 0 [some (.inr r)] S σ = je X 31 1 [some (.inr r)] (.inr r :: S) σ := je_aload (show jm_fe 31 0 = some (jk_aload 0 1) from rfl) rfl
theorem r_M_begin_1 : je X 31 1 L S σ = je X 31 2 L (.inl 0 :: S) σ := je_const (show jm_fe 31 1 = some (jk_const 0 1) from rfl)
theorem r_M_begin_2 : je X 31 2 L (v :: .inr (.inl (some a)) :: S) σ = je_h X 31 5 L S σ.2 (jm_pf σ.1 a 9 0 0 v) := je_putf (show jm_fe 31 2 = some (jk_putf 9 0 0) from rfl)
theorem r_M_begin_5 : je X 31 5 [some (.inr r)] S σ = je X 31 6 [some (.inr r)] (.inr r :: S) σ := je_aload (show jm_fe 31 5 = some (jk_aload 0 1) from rfl) rfl
theorem r_M_begin_6 : je X 31 6 L S σ = je X 31 7 L (.inl 1 :: S) σ := je_const (show jm_fe 31 6 = some (jk_const 1 1) from rfl)
theorem r_M_begin_7 : je X 31 7 L (v :: .inr (.inl (some a)) :: S) σ = je_h X 31 10 L S σ.2 (jm_pf σ.1 a 9 16 1 v) := je_putf (show jm_fe 31 7 = some (jk_putf 9 16 1) from rfl)
theorem r_M_begin_10 : je X 31 10 [some (.inr r)] S σ = je X 31 11 [some (.inr r)] (.inr r :: S) σ := je_aload (show jm_fe 31 10 = some (jk_aload 0 1) from rfl) rfl
theorem r_M_begin_11 : je X 31 11 L S σ = je X 31 12 L (.inl (-1) :: S) σ := je_const (show jm_fe 31 11 = some (jk_const (-1) 1) from rfl)
theorem r_M_begin_12 : je X 31 12 L (v :: .inr (.inl (some a)) :: S) σ = je_h X 31 15 L S σ.2 (jm_pf σ.1 a 9 17 0 v) := je_putf (show jm_fe 31 12 = some (jk_putf 9 17 0) from rfl)
theorem r_M_begin_15 : je X 31 15 [some (.inr r)] S σ = je X 31 16 [some (.inr r)] (.inr r :: S) σ := je_aload (show jm_fe 31 15 = some (jk_aload 0 1) from rfl) rfl
theorem r_M_begin_16 : je X 31 16 L S σ = je X 31 17 L (.inl 0 :: S) σ := je_const (show jm_fe 31 16 = some (jk_const 0 1) from rfl)
theorem r_M_begin_17 : je X 31 17 L (v :: .inr (.inl (some a)) :: S) σ = je_h X 31 20 L S σ.2 (jm_pf σ.1 a 9 18 0 v) := je_putf (show jm_fe 31 17 = some (jk_putf 9 18 0) from rfl)
theorem r_M_begin_20 : je X 31 20 [some (.inr r)] S σ = je X 31 21 [some (.inr r)] (.inr r :: S) σ := je_aload (show jm_fe 31 20 = some (jk_aload 0 1) from rfl) rfl
theorem r_M_begin_21 : je X 31 21 L S σ = je X 31 22 L (.inl 0 :: S) σ := je_const (show jm_fe 31 21 = some (jk_const 0 1) from rfl)
theorem r_M_begin_22 : je X 31 22 L (v :: .inr (.inl (some a)) :: S) σ = je_h X 31 25 L S σ.2 (jm_pf σ.1 a 9 19 0 v) := je_putf (show jm_fe 31 22 = some (jk_putf 9 19 0) from rfl)
theorem r_M_begin_25 : je X 31 25 [some (.inr r)] S σ = je X 31 26 [some (.inr r)] (.inr r :: S) σ := je_aload (show jm_fe 31 25 = some (jk_aload 0 1) from rfl) rfl
theorem r_M_begin_26 : je X 31 26 L S σ = je X 31 27 L (.inl 0 :: S) σ := je_const (show jm_fe 31 26 = some (jk_const 0 1) from rfl)
theorem r_M_begin_27 : je X 31 27 L (v :: .inr (.inl (some a)) :: S) σ = je_h X 31 30 L S σ.2 (jm_pf σ.1 a 9 20 0 v) := je_putf (show jm_fe 31 27 = some (jk_putf 9 20 0) from rfl)
theorem r_M_begin_30 : je X 31 30 [some (.inr r)] S σ = je X 31 31 [some (.inr r)] (.inr r :: S) σ := je_aload (show jm_fe 31 30 = some (jk_aload 0 1) from rfl) rfl
theorem r_M_begin_31 : je X 31 31 L S σ = je X 31 32 L (.inl 0 :: S) σ := je_const (show jm_fe 31 31 = some (jk_const 0 1) from rfl)
theorem r_M_begin_32 : je X 31 32 L (v :: .inr (.inl (some a)) :: S) σ = je_h X 31 35 L S σ.2 (jm_pf σ.1 a 9 30 0 v) := je_putf (show jm_fe 31 32 = some (jk_putf 9 30 0) from rfl)
theorem r_M_begin_35 : je X 31 35 [some (.inr r)] S σ = je X 31 36 [some (.inr r)] (.inr r :: S) σ := je_aload (show jm_fe 31 35 = some (jk_aload 0 1) from rfl) rfl
theorem r_M_begin_36 : je X 31 36 L S σ = je X 31 37 L (.inl 0 :: S) σ := je_const (show jm_fe 31 36 = some (jk_const 0 1) from rfl)
theorem r_M_begin_37 : je X 31 37 L (v :: .inr (.inl (some a)) :: S) σ = je_h X 31 40 L S σ.2 (jm_pf σ.1 a 9 31 0 v) := je_putf (show jm_fe 31 37 = some (jk_putf 9 31 0) from rfl)
theorem r_M_begin_40 : je X 31 40 [some (.inr r)] S σ = je X 31 41 [some (.inr r)] (.inr r :: S) σ := je_aload (show jm_fe 31 40 = some (jk_aload 0 1) from rfl) rfl
theorem r_M_begin_41 : je X 31 41 L S σ = je X 31 42 L (.inl 0 :: S) σ := je_const (show jm_fe 31 41 = some (jk_const 0 1) from rfl)
theorem r_M_begin_42 : je X 31 42 L (v :: .inr (.inl (some a)) :: S) σ = je_h X 31 45 L S σ.2 (jm_pf σ.1 a 9 22 0 v) := je_putf (show jm_fe 31 42 = some (jk_putf 9 22 0) from rfl)
theorem r_M_begin_45 : je X 31 45 [some (.inr r)] S σ = je X 31 46 [some (.inr r)] (.inr r :: S) σ := je_aload (show jm_fe 31 45 = some (jk_aload 0 1) from rfl) rfl
theorem r_M_begin_46 : je X 31 46 L S σ = je X 31 47 L (.inl 0 :: S) σ := je_const (show jm_fe 31 46 = some (jk_const 0 1) from rfl)
theorem r_M_begin_47 (hc : jm_cl σ.1 a = some 9) (h8 : S.length ≤ 8) : je X 31 47 L (v0 :: .inr (.inl (some a)) :: S) σ = je_c X 31 50 L S (je X 32 0 [some (.inr (.inl (some a))), some v0, none] [] σ) := je_callV (as := [v0]) (S' := S) (show jm_fe 31 47 = some (jk_callV 32 1 9) from rfl) rfl hc h8
theorem r_M_begin_50 : je X 31 50 [some (.inr r)] S σ = je X 31 51 [some (.inr r)] (.inr r :: S) σ := je_aload (show jm_fe 31 50 = some (jk_aload 0 1) from rfl) rfl
theorem r_M_begin_51 : je X 31 51 L S σ = je X 31 52 L (.inl 1 :: S) σ := je_const (show jm_fe 31 51 = some (jk_const 1 1) from rfl)
theorem r_M_begin_52 : je X 31 52 L (v :: .inr (.inl (some a)) :: S) σ = je_h X 31 55 L S σ.2 (jm_pf σ.1 a 9 21 0 v) := je_putf (show jm_fe 31 52 = some (jk_putf 9 21 0) from rfl)
theorem r_M_begin_55 : je X 31 55 L [] σ = some (none, σ) := je_ret (show jm_fe 31 55 = some (jk_ret) from rfl)
theorem r_M_open_0 : je X 32 0 [some (.inr r), l1, l2] S σ = je X 32 1 [some (.inr r), l1, l2] (.inr r :: S) σ := je_aload (show jm_fe 32 0 = some (jk_aload 0 1) from rfl) rfl
theorem r_M_open_1 : je X 32 1 L (.inr (.inl (some a)) :: S) σ = je_v X 32 4 L S σ (jm_gf σ.1 a 9 23) := je_getf (show jm_fe 32 1 = some (jk_getf 9 23) from rfl)
theorem r_M_open_4 : je X 32 4 [some (.inr r), l1, l2] S σ = je X 32 5 [some (.inr r), l1, l2] (.inr r :: S) σ := je_aload (show jm_fe 32 4 = some (jk_aload 0 1) from rfl) rfl
theorem r_M_open_5 : je X 32 5 L (.inr (.inl (some a)) :: S) σ = je_v X 32 8 L S σ (jm_gf σ.1 a 9 22) := je_getf (show jm_fe 32 5 = some (jk_getf 9 22) from rfl)
theorem r_M_open_8 : je X 32 8 [l0, some (.inl x), l2] S σ = je X 32 9 [l0, some (.inl x), l2] (.inl x :: S) σ := je_iload (show jm_fe 32 8 = some (jk_iload 1 1) from rfl) rfl
theorem r_M_open_9 : je X 32 9 L (.inl q :: .inl p :: .inr (.inl (some a)) :: S) σ = je_h X 32 10 L S σ.2 (jm_as σ.1 a 0 p q) := je_iast (show jm_fe 32 9 = some (jk_iast) from rfl)
theorem r_M_open_10 : je X 32 10 [some (.inr r), l1, l2] S σ = je X 32 11 [some (.inr r), l1, l2] (.inr r :: S) σ := je_aload (show jm_fe 32 10 = some (jk_aload 0 1) from rfl) rfl
theorem r_M_open_11 : je X 32 11 L (.inr (.inl (some a)) :: S) σ = je_v X 32 14 L S σ (jm_gf σ.1 a 9 24) := je_getf (show jm_fe 32 11 = some (jk_getf 9 24) from rfl)
theorem r_M_open_14 : je X 32 14 [some (.inr r), l1, l2] S σ = je X 32 15 [some (.inr r), l1, l2] (.inr r :: S) σ := je_aload (show jm_fe 32 14 = some (jk_aload 0 1) from rfl) rfl
theorem r_M_open_15 : je X 32 15 L (.inr (.inl (some a)) :: S) σ = je_v X 32 18 L S σ (jm_gf σ.1 a 9 22) := je_getf (show jm_fe 32 15 = some (jk_getf 9 22) from rfl)
theorem r_M_open_18 : je X 32 18 L S σ = je X 32 19 L (.inl 0 :: S) σ := je_const (show jm_fe 32 18 = some (jk_const 0 1) from rfl)
theorem r_M_open_19 : je X 32 19 L (.inl q :: .inl p :: .inr (.inl (some a)) :: S) σ = je_h X 32 20 L S σ.2 (jm_as σ.1 a 0 p q) := je_iast (show jm_fe 32 19 = some (jk_iast) from rfl)
theorem r_M_open_20 : je X 32 20 [some (.inr r), l1, l2] S σ = je X 32 21 [some (.inr r), l1, l2] (.inr r :: S) σ := je_aload (show jm_fe 32 20 = some (jk_aload 0 1) from rfl) rfl
theorem r_M_open_21 : je X 32 21 L (.inr (.inl (some a)) :: S) σ = je_v X 32 24 L S σ (jm_gf σ.1 a 9 25) := je_getf (show jm_fe 32 21 = some (jk_getf 9 25) from rfl)
theorem r_M_open_24 : je X 32 24 [some (.inr r), l1, l2] S σ = je X 32 25 [some (.inr r), l1, l2] (.inr r :: S) σ := je_aload (show jm_fe 32 24 = some (jk_aload 0 1) from rfl) rfl
theorem r_M_open_25 : je X 32 25 L (.inr (.inl (some a)) :: S) σ = je_v X 32 28 L S σ (jm_gf σ.1 a 9 22) := je_getf (show jm_fe 32 25 = some (jk_getf 9 22) from rfl)
theorem r_M_open_28 : je X 32 28 L S σ = je X 32 29 L (.inl 0 :: S) σ := je_const (show jm_fe 32 28 = some (jk_const 0 1) from rfl)
theorem r_M_open_29 : je X 32 29 L (.inl q :: .inl p :: .inr (.inl (some a)) :: S) σ = je_h X 32 30 L S σ.2 (jm_as σ.1 a 0 p q) := je_iast (show jm_fe 32 29 = some (jk_iast) from rfl)
theorem r_M_open_30 : je X 32 30 L S σ = je X 32 31 L (.inl 0 :: S) σ := je_const (show jm_fe 32 30 = some (jk_const 0 1) from rfl)
theorem r_M_open_31 : je X 32 31 [l0, l1, l2] (.inl x :: S) σ = je X 32 32 [l0, l1, some (.inl x)] S σ := je_istore (show jm_fe 32 31 = some (jk_istore 2 1) from rfl) (Nat.le_of_ble_eq_true rfl)
theorem r_M_open_32 : je X 32 32 [l0, l1, some (.inl x)] S σ = je X 32 33 [l0, l1, some (.inl x)] (.inl x :: S) σ := je_iload (show jm_fe 32 32 = some (jk_iload 2 1) from rfl) rfl
theorem r_M_open_33 : je X 32 33 L S σ = je X 32 35 L (.inl 8 :: S) σ := je_const (show jm_fe 32 33 = some (jk_const (8) 2) from rfl)
theorem r_M_open_35 : je X 32 35 L (.inl q :: .inl p :: S) σ = if q ≤ p then je X 32 74 L S σ else je X 32 38 L S σ := je_icmp_ge (show jm_fe 32 35 = some (jk_icmp .ge 74) from rfl)
theorem r_M_open_38 : je X 32 38 [some (.inr r), l1, l2] S σ = je X 32 39 [some (.inr r), l1, l2] (.inr r :: S) σ := je_aload (show jm_fe 32 38 = some (jk_aload 0 1) from rfl) rfl
theorem r_M_open_39 : je X 32 39 L (.inr (.inl (some a)) :: S) σ = je_v X 32 42 L S σ (jm_gf σ.1 a 9 28) := je_getf (show jm_fe 32 39 = some (jk_getf 9 28) from rfl)
theorem r_M_open_42 : je X 32 42 L S σ = je X 32 44 L (.inl 8 :: S) σ := je_const (show jm_fe 32 42 = some (jk_const (8) 2) from rfl)
theorem r_M_open_44 : je X 32 44 [some (.inr r), l1, l2] S σ = je X 32 45 [some (.inr r), l1, l2] (.inr r :: S) σ := je_aload (show jm_fe 32 44 = some (jk_aload 0 1) from rfl) rfl
theorem r_M_open_45 : je X 32 45 L (.inr (.inl (some a)) :: S) σ = je_v X 32 48 L S σ (jm_gf σ.1 a 9 22) := je_getf (show jm_fe 32 45 = some (jk_getf 9 22) from rfl)
theorem r_M_open_48 : je X 32 48 L (.inl q :: .inl p :: S) σ = je X 32 49 L (.inl (p * q) :: S) σ := je_bin (show jm_fe 32 48 = some (jb_imul) from rfl)
theorem r_M_open_49 : je X 32 49 [l0, l1, some (.inl x)] S σ = je X 32 50 [l0, l1, some (.inl x)] (.inl x :: S) σ := je_iload (show jm_fe 32 49 = some (jk_iload 2 1) from rfl) rfl
theorem r_M_open_50 : je X 32 50 L (.inl q :: .inl p :: S) σ = je X 32 51 L (.inl (p + q) :: S) σ := je_bin (show jm_fe 32 50 = some (jb_iadd) from rfl)
theorem r_M_open_51 : je X 32 51 L S σ = je X 32 52 L (.inl 0 :: S) σ := je_const (show jm_fe 32 51 = some (jk_const 0 1) from rfl)
theorem r_M_open_52 : je X 32 52 L (.inl q :: .inl p :: .inr (.inl (some a)) :: S) σ = je_h X 32 53 L S σ.2 (jm_as σ.1 a 0 p q) := je_iast (show jm_fe 32 52 = some (jk_iast) from rfl)
theorem r_M_open_53 : je X 32 53 [some (.inr r), l1, l2] S σ = je X 32 54 [some (.inr r), l1, l2] (.inr r :: S) σ := je_aload (show jm_fe 32 53 = some (jk_aload 0 1) from rfl) rfl
theorem r_M_open_54 : je X 32 54 L (.inr (.inl (some a)) :: S) σ = je_v X 32 57 L S σ (jm_gf σ.1 a 9 29) := je_getf (show jm_fe 32 54 = some (jk_getf 9 29) from rfl)
theorem r_M_open_57 : je X 32 57 L S σ = je X 32 59 L (.inl 8 :: S) σ := je_const (show jm_fe 32 57 = some (jk_const (8) 2) from rfl)
theorem r_M_open_59 : je X 32 59 [some (.inr r), l1, l2] S σ = je X 32 60 [some (.inr r), l1, l2] (.inr r :: S) σ := je_aload (show jm_fe 32 59 = some (jk_aload 0 1) from rfl) rfl
theorem r_M_open_60 : je X 32 60 L (.inr (.inl (some a)) :: S) σ = je_v X 32 63 L S σ (jm_gf σ.1 a 9 22) := je_getf (show jm_fe 32 60 = some (jk_getf 9 22) from rfl)
theorem r_M_open_63 : je X 32 63 L (.inl q :: .inl p :: S) σ = je X 32 64 L (.inl (p * q) :: S) σ := je_bin (show jm_fe 32 63 = some (jb_imul) from rfl)
theorem r_M_open_64 : je X 32 64 [l0, l1, some (.inl x)] S σ = je X 32 65 [l0, l1, some (.inl x)] (.inl x :: S) σ := je_iload (show jm_fe 32 64 = some (jk_iload 2 1) from rfl) rfl
theorem r_M_open_65 : je X 32 65 L (.inl q :: .inl p :: S) σ = je X 32 66 L (.inl (p + q) :: S) σ := je_bin (show jm_fe 32 65 = some (jb_iadd) from rfl)
theorem r_M_open_66 : je X 32 66 L S σ = je X 32 67 L (.inl 0 :: S) σ := je_const (show jm_fe 32 66 = some (jk_const 0 1) from rfl)
theorem r_M_open_67 : je X 32 67 L (.inl q :: .inl p :: .inr (.inl (some a)) :: S) σ = je_h X 32 68 L S σ.2 (jm_as σ.1 a 0 p q) := je_iast (show jm_fe 32 67 = some (jk_iast) from rfl)
theorem r_M_open_68 : je X 32 68 [l0, l1, some (.inl x)] S σ = je X 32 71 [l0, l1, some (.inl (x + (1)))] S σ := je_iinc (show jm_fe 32 68 = some (jk_iinc 2 (1)) from rfl) rfl
theorem r_M_open_71 : je X 32 71 L S σ = je X 32 32 L S σ := je_goto (show jm_fe 32 71 = some (jk_goto 32) from rfl)
theorem r_M_open_74 : je X 32 74 [some (.inr r), l1, l2] S σ = je X 32 75 [some (.inr r), l1, l2] (.inr r :: S) σ := je_aload (show jm_fe 32 74 = some (jk_aload 0 1) from rfl) rfl
theorem r_M_open_75 : je X 32 75 L (v :: S) σ = je X 32 76 L (v :: v :: S) σ := je_dup (show jm_fe 32 75 = some (jk_dup) from rfl)
theorem r_M_open_76 : je X 32 76 L (.inr (.inl (some a)) :: S) σ = je_v X 32 79 L S σ (jm_gf σ.1 a 9 22) := je_getf (show jm_fe 32 76 = some (jk_getf 9 22) from rfl)
theorem r_M_open_79 : je X 32 79 L S σ = je X 32 80 L (.inl 1 :: S) σ := je_const (show jm_fe 32 79 = some (jk_const 1 1) from rfl)
theorem r_M_open_80 : je X 32 80 L (.inl q :: .inl p :: S) σ = je X 32 81 L (.inl (p + q) :: S) σ := je_bin (show jm_fe 32 80 = some (jb_iadd) from rfl)
theorem r_M_open_81 : je X 32 81 L (v :: .inr (.inl (some a)) :: S) σ = je_h X 32 84 L S σ.2 (jm_pf σ.1 a 9 22 0 v) := je_putf (show jm_fe 32 81 = some (jk_putf 9 22 0) from rfl)
theorem r_M_open_84 : je X 32 84 [some (.inr r), l1, l2] S σ = je X 32 85 [some (.inr r), l1, l2] (.inr r :: S) σ := je_aload (show jm_fe 32 84 = some (jk_aload 0 1) from rfl) rfl
theorem r_M_open_85 : je X 32 85 [some (.inr r), l1, l2] S σ = je X 32 86 [some (.inr r), l1, l2] (.inr r :: S) σ := je_aload (show jm_fe 32 85 = some (jk_aload 0 1) from rfl) rfl
theorem r_M_open_86 : je X 32 86 L (.inr (.inl (some a)) :: S) σ = je_v X 32 89 L S σ (jm_gf σ.1 a 9 22) := je_getf (show jm_fe 32 86 = some (jk_getf 9 22) from rfl)
theorem r_M_open_89 : je X 32 89 [some (.inr r), l1, l2] S σ = je X 32 90 [some (.inr r), l1, l2] (.inr r :: S) σ := je_aload (show jm_fe 32 89 = some (jk_aload 0 1) from rfl) rfl
theorem r_M_open_90 : je X 32 90 L (.inr (.inl (some a)) :: S) σ = je_v X 32 93 L S σ (jm_gf σ.1 a 9 21) := je_getf (show jm_fe 32 90 = some (jk_getf 9 21) from rfl)
theorem r_M_open_93 : je X 32 93 L (.inl q :: .inl p :: S) σ = if p ≤ q then je X 32 103 L S σ else je X 32 96 L S σ := je_icmp_le (show jm_fe 32 93 = some (jk_icmp .le 103) from rfl)
theorem r_M_open_96 : je X 32 96 [some (.inr r), l1, l2] S σ = je X 32 97 [some (.inr r), l1, l2] (.inr r :: S) σ := je_aload (show jm_fe 32 96 = some (jk_aload 0 1) from rfl) rfl
theorem r_M_open_97 : je X 32 97 L (.inr (.inl (some a)) :: S) σ = je_v X 32 100 L S σ (jm_gf σ.1 a 9 22) := je_getf (show jm_fe 32 97 = some (jk_getf 9 22) from rfl)
theorem r_M_open_100 : je X 32 100 L S σ = je X 32 107 L S σ := je_goto (show jm_fe 32 100 = some (jk_goto 107) from rfl)
theorem r_M_open_103 : je X 32 103 [some (.inr r), l1, l2] S σ = je X 32 104 [some (.inr r), l1, l2] (.inr r :: S) σ := je_aload (show jm_fe 32 103 = some (jk_aload 0 1) from rfl) rfl
theorem r_M_open_104 : je X 32 104 L (.inr (.inl (some a)) :: S) σ = je_v X 32 107 L S σ (jm_gf σ.1 a 9 21) := je_getf (show jm_fe 32 104 = some (jk_getf 9 21) from rfl)
theorem r_M_open_107 : je X 32 107 L (v :: .inr (.inl (some a)) :: S) σ = je_h X 32 110 L S σ.2 (jm_pf σ.1 a 9 21 0 v) := je_putf (show jm_fe 32 107 = some (jk_putf 9 21 0) from rfl)
theorem r_M_open_110 : je X 32 110 L [] σ = some (none, σ) := je_ret (show jm_fe 32 110 = some (jk_ret) from rfl)
theorem r_M_finish_0 : je X 33 0 [some (.inr r), l1, l2] S σ = je X 33 1 [some (.inr r), l1, l2] (.inr r :: S) σ := je_aload (show jm_fe 33 0 = some (jk_aload 0 1) from rfl) rfl
theorem r_M_finish_1 : je X 33 1 [l0, some (.inl x), l2] S σ = je X 33 2 [l0, some (.inl x), l2] (.inl x :: S) σ := je_iload (show jm_fe 33 1 = some (jk_iload 1 1) from rfl) rfl
theorem r_M_finish_2 : je X 33 2 L (v :: .inr (.inl (some a)) :: S) σ = je_h X 33 5 L S σ.2 (jm_pf σ.1 a 9 17 0 v) := je_putf (show jm_fe 33 2 = some (jk_putf 9 17 0) from rfl)
theorem r_M_finish_5 : je X 33 5 [some (.inr r), l1, l2] S σ = je X 33 6 [some (.inr r), l1, l2] (.inr r :: S) σ := je_aload (show jm_fe 33 5 = some (jk_aload 0 1) from rfl) rfl
theorem r_M_finish_6 : je X 33 6 [l0, l1, some (.inl x)] S σ = je X 33 7 [l0, l1, some (.inl x)] (.inl x :: S) σ := je_iload (show jm_fe 33 6 = some (jk_iload 2 1) from rfl) rfl
theorem r_M_finish_7 : je X 33 7 L (v :: .inr (.inl (some a)) :: S) σ = je_h X 33 10 L S σ.2 (jm_pf σ.1 a 9 18 0 v) := je_putf (show jm_fe 33 7 = some (jk_putf 9 18 0) from rfl)
theorem r_M_finish_10 : je X 33 10 [some (.inr r), l1, l2] S σ = je X 33 11 [some (.inr r), l1, l2] (.inr r :: S) σ := je_aload (show jm_fe 33 10 = some (jk_aload 0 1) from rfl) rfl
theorem r_M_finish_11 : je X 33 11 L S σ = je X 33 12 L (.inl 0 :: S) σ := je_const (show jm_fe 33 11 = some (jk_const 0 1) from rfl)
theorem r_M_finish_12 : je X 33 12 L (v :: .inr (.inl (some a)) :: S) σ = je_h X 33 15 L S σ.2 (jm_pf σ.1 a 9 22 0 v) := je_putf (show jm_fe 33 12 = some (jk_putf 9 22 0) from rfl)
theorem r_M_finish_15 : je X 33 15 L [] σ = some (none, σ) := je_ret (show jm_fe 33 15 = some (jk_ret) from rfl)
theorem r_M_push_0 : je X 34 0 [some (.inr r), l1, l2, l3] S σ = je X 34 1 [some (.inr r), l1, l2, l3] (.inr r :: S) σ := je_aload (show jm_fe 34 0 = some (jk_aload 0 1) from rfl) rfl
theorem r_M_push_1 : je X 34 1 L (.inr (.inl (some a)) :: S) σ = je_v X 34 4 L S σ (jm_gf σ.1 a 9 22) := je_getf (show jm_fe 34 1 = some (jk_getf 9 22) from rfl)
theorem r_M_push_4 : je X 34 4 L S σ = je X 34 5 L (.inl 1 :: S) σ := je_const (show jm_fe 34 4 = some (jk_const 1 1) from rfl)
theorem r_M_push_5 : je X 34 5 L (.inl q :: .inl p :: S) σ = je X 34 6 L (.inl (p - q) :: S) σ := je_bin (show jm_fe 34 5 = some (jb_isub) from rfl)
theorem r_M_push_6 : je X 34 6 [l0, l1, l2, l3] (.inl x :: S) σ = je X 34 7 [l0, l1, l2, some (.inl x)] S σ := je_istore (show jm_fe 34 6 = some (jk_istore 3 1) from rfl) (Nat.le_of_ble_eq_true rfl)
theorem r_M_push_7 : je X 34 7 [some (.inr r), l1, l2, l3] S σ = je X 34 8 [some (.inr r), l1, l2, l3] (.inr r :: S) σ := je_aload (show jm_fe 34 7 = some (jk_aload 0 1) from rfl) rfl
theorem r_M_push_8 : je X 34 8 L (.inr (.inl (some a)) :: S) σ = je_v X 34 11 L S σ (jm_gf σ.1 a 9 26) := je_getf (show jm_fe 34 8 = some (jk_getf 9 26) from rfl)
theorem r_M_push_11 : je X 34 11 L S σ = je X 34 13 L (.inl 16 :: S) σ := je_const (show jm_fe 34 11 = some (jk_const (16) 2) from rfl)
theorem r_M_push_13 : je X 34 13 [l0, l1, l2, some (.inl x)] S σ = je X 34 14 [l0, l1, l2, some (.inl x)] (.inl x :: S) σ := je_iload (show jm_fe 34 13 = some (jk_iload 3 1) from rfl) rfl
theorem r_M_push_14 : je X 34 14 L (.inl q :: .inl p :: S) σ = je X 34 15 L (.inl (p * q) :: S) σ := je_bin (show jm_fe 34 14 = some (jb_imul) from rfl)
theorem r_M_push_15 : je X 34 15 [some (.inr r), l1, l2, l3] S σ = je X 34 16 [some (.inr r), l1, l2, l3] (.inr r :: S) σ := je_aload (show jm_fe 34 15 = some (jk_aload 0 1) from rfl) rfl
theorem r_M_push_16 : je X 34 16 L (.inr (.inl (some a)) :: S) σ = je_v X 34 19 L S σ (jm_gf σ.1 a 9 25) := je_getf (show jm_fe 34 16 = some (jk_getf 9 25) from rfl)
theorem r_M_push_19 : je X 34 19 [l0, l1, l2, some (.inl x)] S σ = je X 34 20 [l0, l1, l2, some (.inl x)] (.inl x :: S) σ := je_iload (show jm_fe 34 19 = some (jk_iload 3 1) from rfl) rfl
theorem r_M_push_20 : je X 34 20 L (.inl p :: .inr (.inl (some a)) :: S) σ = je_i X 34 21 L S σ (jm_al σ.1 a 0 p) := je_ald (show jm_fe 34 20 = some (jk_ald 0) from rfl)
theorem r_M_push_21 : je X 34 21 L (.inl q :: .inl p :: S) σ = je X 34 22 L (.inl (p + q) :: S) σ := je_bin (show jm_fe 34 21 = some (jb_iadd) from rfl)
theorem r_M_push_22 : je X 34 22 [l0, some (.inl x), l2, l3] S σ = je X 34 23 [l0, some (.inl x), l2, l3] (.inl x :: S) σ := je_iload (show jm_fe 34 22 = some (jk_iload 1 1) from rfl) rfl
theorem r_M_push_23 : je X 34 23 L (.inl q :: .inl p :: .inr (.inl (some a)) :: S) σ = je_h X 34 24 L S σ.2 (jm_as σ.1 a 0 p q) := je_iast (show jm_fe 34 23 = some (jk_iast) from rfl)
theorem r_M_push_24 : je X 34 24 [some (.inr r), l1, l2, l3] S σ = je X 34 25 [some (.inr r), l1, l2, l3] (.inr r :: S) σ := je_aload (show jm_fe 34 24 = some (jk_aload 0 1) from rfl) rfl
theorem r_M_push_25 : je X 34 25 L (.inr (.inl (some a)) :: S) σ = je_v X 34 28 L S σ (jm_gf σ.1 a 9 27) := je_getf (show jm_fe 34 25 = some (jk_getf 9 27) from rfl)
theorem r_M_push_28 : je X 34 28 L S σ = je X 34 30 L (.inl 16 :: S) σ := je_const (show jm_fe 34 28 = some (jk_const (16) 2) from rfl)
theorem r_M_push_30 : je X 34 30 [l0, l1, l2, some (.inl x)] S σ = je X 34 31 [l0, l1, l2, some (.inl x)] (.inl x :: S) σ := je_iload (show jm_fe 34 30 = some (jk_iload 3 1) from rfl) rfl
theorem r_M_push_31 : je X 34 31 L (.inl q :: .inl p :: S) σ = je X 34 32 L (.inl (p * q) :: S) σ := je_bin (show jm_fe 34 31 = some (jb_imul) from rfl)
theorem r_M_push_32 : je X 34 32 [some (.inr r), l1, l2, l3] S σ = je X 34 33 [some (.inr r), l1, l2, l3] (.inr r :: S) σ := je_aload (show jm_fe 34 32 = some (jk_aload 0 1) from rfl) rfl
theorem r_M_push_33 : je X 34 33 L (.inr (.inl (some a)) :: S) σ = je_v X 34 36 L S σ (jm_gf σ.1 a 9 25) := je_getf (show jm_fe 34 33 = some (jk_getf 9 25) from rfl)
theorem r_M_push_36 : je X 34 36 [l0, l1, l2, some (.inl x)] S σ = je X 34 37 [l0, l1, l2, some (.inl x)] (.inl x :: S) σ := je_iload (show jm_fe 34 36 = some (jk_iload 3 1) from rfl) rfl
theorem r_M_push_37 : je X 34 37 L (.inl p :: .inr (.inl (some a)) :: S) σ = je_i X 34 38 L S σ (jm_al σ.1 a 0 p) := je_ald (show jm_fe 34 37 = some (jk_ald 0) from rfl)
theorem r_M_push_38 : je X 34 38 L (.inl q :: .inl p :: S) σ = je X 34 39 L (.inl (p + q) :: S) σ := je_bin (show jm_fe 34 38 = some (jb_iadd) from rfl)
theorem r_M_push_39 : je X 34 39 [l0, l1, some (.inl x), l3] S σ = je X 34 40 [l0, l1, some (.inl x), l3] (.inl x :: S) σ := je_iload (show jm_fe 34 39 = some (jk_iload 2 1) from rfl) rfl
theorem r_M_push_40 : je X 34 40 L (.inl q :: .inl p :: .inr (.inl (some a)) :: S) σ = je_h X 34 41 L S σ.2 (jm_as σ.1 a 0 p q) := je_iast (show jm_fe 34 40 = some (jk_iast) from rfl)
theorem r_M_push_41 : je X 34 41 [some (.inr r), l1, l2, l3] S σ = je X 34 42 [some (.inr r), l1, l2, l3] (.inr r :: S) σ := je_aload (show jm_fe 34 41 = some (jk_aload 0 1) from rfl) rfl
theorem r_M_push_42 : je X 34 42 L (.inr (.inl (some a)) :: S) σ = je_v X 34 45 L S σ (jm_gf σ.1 a 9 25) := je_getf (show jm_fe 34 42 = some (jk_getf 9 25) from rfl)
theorem r_M_push_45 : je X 34 45 [l0, l1, l2, some (.inl x)] S σ = je X 34 46 [l0, l1, l2, some (.inl x)] (.inl x :: S) σ := je_iload (show jm_fe 34 45 = some (jk_iload 3 1) from rfl) rfl
theorem r_M_push_46 : je X 34 46 L (v :: w :: S) σ = je X 34 47 L (v :: w :: v :: w :: S) σ := je_dup2 (show jm_fe 34 46 = some (jk_dup2) from rfl)
theorem r_M_push_47 : je X 34 47 L (.inl p :: .inr (.inl (some a)) :: S) σ = je_i X 34 48 L S σ (jm_al σ.1 a 0 p) := je_ald (show jm_fe 34 47 = some (jk_ald 0) from rfl)
theorem r_M_push_48 : je X 34 48 L S σ = je X 34 49 L (.inl 1 :: S) σ := je_const (show jm_fe 34 48 = some (jk_const 1 1) from rfl)
theorem r_M_push_49 : je X 34 49 L (.inl q :: .inl p :: S) σ = je X 34 50 L (.inl (p + q) :: S) σ := je_bin (show jm_fe 34 49 = some (jb_iadd) from rfl)
theorem r_M_push_50 : je X 34 50 L (.inl q :: .inl p :: .inr (.inl (some a)) :: S) σ = je_h X 34 51 L S σ.2 (jm_as σ.1 a 0 p q) := je_iast (show jm_fe 34 50 = some (jk_iast) from rfl)
theorem r_M_push_51 : je X 34 51 L [] σ = some (none, σ) := je_ret (show jm_fe 34 51 = some (jk_ret) from rfl)
theorem r_M_under_0 : je X 35 0 L S σ = je X 35 2 L (.inl 16 :: S) σ := je_const (show jm_fe 35 0 = some (jk_const (16) 2) from rfl)
theorem r_M_under_2 : je X 35 2 [some (.inr r), l1] S σ = je X 35 3 [some (.inr r), l1] (.inr r :: S) σ := je_aload (show jm_fe 35 2 = some (jk_aload 0 1) from rfl) rfl
theorem r_M_under_3 : je X 35 3 L (.inr (.inl (some a)) :: S) σ = je_v X 35 6 L S σ (jm_gf σ.1 a 9 22) := je_getf (show jm_fe 35 3 = some (jk_getf 9 22) from rfl)
theorem r_M_under_6 : je X 35 6 L S σ = je X 35 7 L (.inl 1 :: S) σ := je_const (show jm_fe 35 6 = some (jk_const 1 1) from rfl)
theorem r_M_under_7 : je X 35 7 L (.inl q :: .inl p :: S) σ = je X 35 8 L (.inl (p - q) :: S) σ := je_bin (show jm_fe 35 7 = some (jb_isub) from rfl)
theorem r_M_under_8 : je X 35 8 L (.inl q :: .inl p :: S) σ = je X 35 9 L (.inl (p * q) :: S) σ := je_bin (show jm_fe 35 8 = some (jb_imul) from rfl)
theorem r_M_under_9 : je X 35 9 [some (.inr r), l1] S σ = je X 35 10 [some (.inr r), l1] (.inr r :: S) σ := je_aload (show jm_fe 35 9 = some (jk_aload 0 1) from rfl) rfl
theorem r_M_under_10 : je X 35 10 L (.inr (.inl (some a)) :: S) σ = je_v X 35 13 L S σ (jm_gf σ.1 a 9 25) := je_getf (show jm_fe 35 10 = some (jk_getf 9 25) from rfl)
theorem r_M_under_13 : je X 35 13 [some (.inr r), l1] S σ = je X 35 14 [some (.inr r), l1] (.inr r :: S) σ := je_aload (show jm_fe 35 13 = some (jk_aload 0 1) from rfl) rfl
theorem r_M_under_14 : je X 35 14 L (.inr (.inl (some a)) :: S) σ = je_v X 35 17 L S σ (jm_gf σ.1 a 9 22) := je_getf (show jm_fe 35 14 = some (jk_getf 9 22) from rfl)
theorem r_M_under_17 : je X 35 17 L S σ = je X 35 18 L (.inl 1 :: S) σ := je_const (show jm_fe 35 17 = some (jk_const 1 1) from rfl)
theorem r_M_under_18 : je X 35 18 L (.inl q :: .inl p :: S) σ = je X 35 19 L (.inl (p - q) :: S) σ := je_bin (show jm_fe 35 18 = some (jb_isub) from rfl)
theorem r_M_under_19 : je X 35 19 L (.inl p :: .inr (.inl (some a)) :: S) σ = je_i X 35 20 L S σ (jm_al σ.1 a 0 p) := je_ald (show jm_fe 35 19 = some (jk_ald 0) from rfl)
theorem r_M_under_20 : je X 35 20 L (.inl q :: .inl p :: S) σ = je X 35 21 L (.inl (p + q) :: S) σ := je_bin (show jm_fe 35 20 = some (jb_iadd) from rfl)
theorem r_M_under_21 : je X 35 21 L S σ = je X 35 22 L (.inl 1 :: S) σ := je_const (show jm_fe 35 21 = some (jk_const 1 1) from rfl)
theorem r_M_under_22 : je X 35 22 L (.inl q :: .inl p :: S) σ = je X 35 23 L (.inl (p - q) :: S) σ := je_bin (show jm_fe 35 22 = some (jb_isub) from rfl)
theorem r_M_under_23 : je X 35 23 [l0, some (.inl x)] S σ = je X 35 24 [l0, some (.inl x)] (.inl x :: S) σ := je_iload (show jm_fe 35 23 = some (jk_iload 1 1) from rfl) rfl
theorem r_M_under_24 : je X 35 24 L (.inl q :: .inl p :: S) σ = je X 35 25 L (.inl (p - q) :: S) σ := je_bin (show jm_fe 35 24 = some (jb_isub) from rfl)
theorem r_M_under_25 : je X 35 25 L [.inl p] σ = some (some (.inl p), σ) := je_iret (show jm_fe 35 25 = some (jk_iret) from rfl)
theorem r_M_drop_0 : je X 36 0 [some (.inr r), l1] S σ = je X 36 1 [some (.inr r), l1] (.inr r :: S) σ := je_aload (show jm_fe 36 0 = some (jk_aload 0 1) from rfl) rfl
theorem r_M_drop_1 : je X 36 1 L (.inr (.inl (some a)) :: S) σ = je_v X 36 4 L S σ (jm_gf σ.1 a 9 25) := je_getf (show jm_fe 36 1 = some (jk_getf 9 25) from rfl)
theorem r_M_drop_4 : je X 36 4 [some (.inr r), l1] S σ = je X 36 5 [some (.inr r), l1] (.inr r :: S) σ := je_aload (show jm_fe 36 4 = some (jk_aload 0 1) from rfl) rfl
theorem r_M_drop_5 : je X 36 5 L (.inr (.inl (some a)) :: S) σ = je_v X 36 8 L S σ (jm_gf σ.1 a 9 22) := je_getf (show jm_fe 36 5 = some (jk_getf 9 22) from rfl)
theorem r_M_drop_8 : je X 36 8 L S σ = je X 36 9 L (.inl 1 :: S) σ := je_const (show jm_fe 36 8 = some (jk_const 1 1) from rfl)
theorem r_M_drop_9 : je X 36 9 L (.inl q :: .inl p :: S) σ = je X 36 10 L (.inl (p - q) :: S) σ := je_bin (show jm_fe 36 9 = some (jb_isub) from rfl)
theorem r_M_drop_10 : je X 36 10 L (v :: w :: S) σ = je X 36 11 L (v :: w :: v :: w :: S) σ := je_dup2 (show jm_fe 36 10 = some (jk_dup2) from rfl)
theorem r_M_drop_11 : je X 36 11 L (.inl p :: .inr (.inl (some a)) :: S) σ = je_i X 36 12 L S σ (jm_al σ.1 a 0 p) := je_ald (show jm_fe 36 11 = some (jk_ald 0) from rfl)
theorem r_M_drop_12 : je X 36 12 [l0, some (.inl x)] S σ = je X 36 13 [l0, some (.inl x)] (.inl x :: S) σ := je_iload (show jm_fe 36 12 = some (jk_iload 1 1) from rfl) rfl
theorem r_M_drop_13 : je X 36 13 L (.inl q :: .inl p :: S) σ = je X 36 14 L (.inl (p - q) :: S) σ := je_bin (show jm_fe 36 13 = some (jb_isub) from rfl)
theorem r_M_drop_14 : je X 36 14 L (.inl q :: .inl p :: .inr (.inl (some a)) :: S) σ = je_h X 36 15 L S σ.2 (jm_as σ.1 a 0 p q) := je_iast (show jm_fe 36 14 = some (jk_iast) from rfl)
theorem r_M_drop_15 : je X 36 15 L [] σ = some (none, σ) := je_ret (show jm_fe 36 15 = some (jk_ret) from rfl)
theorem r_M_next_0 : je X 37 0 [some (.inr r)] S σ = je X 37 1 [some (.inr r)] (.inr r :: S) σ := je_aload (show jm_fe 37 0 = some (jk_aload 0 1) from rfl) rfl
theorem r_M_next_1 : je X 37 1 L (.inr (.inl (some a)) :: S) σ = je_v X 37 4 L S σ (jm_gf σ.1 a 9 24) := je_getf (show jm_fe 37 1 = some (jk_getf 9 24) from rfl)
theorem r_M_next_4 : je X 37 4 [some (.inr r)] S σ = je X 37 5 [some (.inr r)] (.inr r :: S) σ := je_aload (show jm_fe 37 4 = some (jk_aload 0 1) from rfl) rfl
theorem r_M_next_5 : je X 37 5 L (.inr (.inl (some a)) :: S) σ = je_v X 37 8 L S σ (jm_gf σ.1 a 9 22) := je_getf (show jm_fe 37 5 = some (jk_getf 9 22) from rfl)
theorem r_M_next_8 : je X 37 8 L S σ = je X 37 9 L (.inl 1 :: S) σ := je_const (show jm_fe 37 8 = some (jk_const 1 1) from rfl)
theorem r_M_next_9 : je X 37 9 L (.inl q :: .inl p :: S) σ = je X 37 10 L (.inl (p - q) :: S) σ := je_bin (show jm_fe 37 9 = some (jb_isub) from rfl)
theorem r_M_next_10 : je X 37 10 L (v :: w :: S) σ = je X 37 11 L (v :: w :: v :: w :: S) σ := je_dup2 (show jm_fe 37 10 = some (jk_dup2) from rfl)
theorem r_M_next_11 : je X 37 11 L (.inl p :: .inr (.inl (some a)) :: S) σ = je_i X 37 12 L S σ (jm_al σ.1 a 0 p) := je_ald (show jm_fe 37 11 = some (jk_ald 0) from rfl)
theorem r_M_next_12 : je X 37 12 L S σ = je X 37 13 L (.inl 1 :: S) σ := je_const (show jm_fe 37 12 = some (jk_const 1 1) from rfl)
theorem r_M_next_13 : je X 37 13 L (.inl q :: .inl p :: S) σ = je X 37 14 L (.inl (p + q) :: S) σ := je_bin (show jm_fe 37 13 = some (jb_iadd) from rfl)
theorem r_M_next_14 : je X 37 14 L (.inl q :: .inl p :: .inr (.inl (some a)) :: S) σ = je_h X 37 15 L S σ.2 (jm_as σ.1 a 0 p q) := je_iast (show jm_fe 37 14 = some (jk_iast) from rfl)
theorem r_M_next_15 : je X 37 15 L [] σ = some (none, σ) := je_ret (show jm_fe 37 15 = some (jk_ret) from rfl)
theorem r_M_isThere_0 : je X 38 0 [l0, l1, some (.inl x), l3, l4, l5] S σ = je X 38 1 [l0, l1, some (.inl x), l3, l4, l5] (.inl x :: S) σ := je_iload (show jm_fe 38 0 = some (jk_iload 2 1) from rfl) rfl
theorem r_M_isThere_1 : je X 38 1 L (.inl p :: S) σ = if p = 0 then je X 38 10 L S σ else je X 38 4 L S σ := je_if_eq (show jm_fe 38 1 = some (jk_if .eq 10) from rfl)
theorem r_M_isThere_4 : je X 38 4 [l0, some (.inl x), l2, l3, l4, l5] S σ = je X 38 5 [l0, some (.inl x), l2, l3, l4, l5] (.inl x :: S) σ := je_iload (show jm_fe 38 4 = some (jk_iload 1 1) from rfl) rfl
theorem r_M_isThere_5 : je X 38 5 L S σ = je X 38 6 L (.inl 1 :: S) σ := je_const (show jm_fe 38 5 = some (jk_const 1 1) from rfl)
theorem r_M_isThere_6 : je X 38 6 L (.inl q :: .inl p :: S) σ = je X 38 7 L (.inl (p + q) :: S) σ := je_bin (show jm_fe 38 6 = some (jb_iadd) from rfl)
theorem r_M_isThere_7 : je X 38 7 L S σ = je X 38 11 L S σ := je_goto (show jm_fe 38 7 = some (jk_goto 11) from rfl)
theorem r_M_isThere_10 : je X 38 10 [l0, some (.inl x), l2, l3, l4, l5] S σ = je X 38 11 [l0, some (.inl x), l2, l3, l4, l5] (.inl x :: S) σ := je_iload (show jm_fe 38 10 = some (jk_iload 1 1) from rfl) rfl
theorem r_M_isThere_11 : je X 38 11 [l0, l1, l2, l3, l4, l5] (.inl x :: S) σ = je X 38 12 [l0, l1, l2, some (.inl x), l4, l5] S σ := je_istore (show jm_fe 38 11 = some (jk_istore 3 1) from rfl) (Nat.le_of_ble_eq_true rfl)
theorem r_M_isThere_12 : je X 38 12 [some (.inr r), l1, l2, l3, l4, l5] S σ = je X 38 13 [some (.inr r), l1, l2, l3, l4, l5] (.inr r :: S) σ := je_aload (show jm_fe 38 12 = some (jk_aload 0 1) from rfl) rfl
theorem r_M_isThere_13 : je X 38 13 L (.inr (.inl (some a)) :: S) σ = je_v X 38 16 L S σ (jm_gf σ.1 a 9 25) := je_getf (show jm_fe 38 13 = some (jk_getf 9 25) from rfl)
theorem r_M_isThere_16 : je X 38 16 [some (.inr r), l1, l2, l3, l4, l5] S σ = je X 38 17 [some (.inr r), l1, l2, l3, l4, l5] (.inr r :: S) σ := je_aload (show jm_fe 38 16 = some (jk_aload 0 1) from rfl) rfl
theorem r_M_isThere_17 : je X 38 17 L (.inr (.inl (some a)) :: S) σ = je_v X 38 20 L S σ (jm_gf σ.1 a 9 22) := je_getf (show jm_fe 38 17 = some (jk_getf 9 22) from rfl)
theorem r_M_isThere_20 : je X 38 20 L S σ = je X 38 21 L (.inl 1 :: S) σ := je_const (show jm_fe 38 20 = some (jk_const 1 1) from rfl)
theorem r_M_isThere_21 : je X 38 21 L (.inl q :: .inl p :: S) σ = je X 38 22 L (.inl (p - q) :: S) σ := je_bin (show jm_fe 38 21 = some (jb_isub) from rfl)
theorem r_M_isThere_22 : je X 38 22 L (.inl p :: .inr (.inl (some a)) :: S) σ = je_i X 38 23 L S σ (jm_al σ.1 a 0 p) := je_ald (show jm_fe 38 22 = some (jk_ald 0) from rfl)
theorem r_M_isThere_23 : je X 38 23 [l0, l1, l2, some (.inl x), l4, l5] S σ = je X 38 24 [l0, l1, l2, some (.inl x), l4, l5] (.inl x :: S) σ := je_iload (show jm_fe 38 23 = some (jk_iload 3 1) from rfl) rfl
theorem r_M_isThere_24 : je X 38 24 L (.inl q :: .inl p :: S) σ = if p < q then je X 38 31 L S σ else je X 38 27 L S σ := je_icmp_lt (show jm_fe 38 24 = some (jk_icmp .lt 31) from rfl)
theorem r_M_isThere_27 : je X 38 27 L S σ = je X 38 28 L (.inl 1 :: S) σ := je_const (show jm_fe 38 27 = some (jk_const 1 1) from rfl)
theorem r_M_isThere_28 : je X 38 28 L S σ = je X 38 32 L S σ := je_goto (show jm_fe 38 28 = some (jk_goto 32) from rfl)
theorem r_M_isThere_31 : je X 38 31 L S σ = je X 38 32 L (.inl 0 :: S) σ := je_const (show jm_fe 38 31 = some (jk_const 0 1) from rfl)
theorem r_M_isThere_32 : je X 38 32 [l0, l1, l2, l3, l4, l5] (.inl x :: S) σ = je X 38 34 [l0, l1, l2, l3, some (.inl x), l5] S σ := je_istore (show jm_fe 38 32 = some (jk_istore 4 2) from rfl) (Nat.le_of_ble_eq_true rfl)
theorem r_M_isThere_34 : je X 38 34 L S σ = je X 38 35 L (.inl 0 :: S) σ := je_const (show jm_fe 38 34 = some (jk_const 0 1) from rfl)
theorem r_M_isThere_35 : je X 38 35 [l0, l1, l2, l3, l4, l5] (.inl x :: S) σ = je X 38 37 [l0, l1, l2, l3, l4, some (.inl x)] S σ := je_istore (show jm_fe 38 35 = some (jk_istore 5 2) from rfl) (Nat.le_of_ble_eq_true rfl)
theorem r_M_isThere_37 : je X 38 37 [l0, l1, l2, l3, l4, some (.inl x)] S σ = je X 38 39 [l0, l1, l2, l3, l4, some (.inl x)] (.inl x :: S) σ := je_iload (show jm_fe 38 37 = some (jk_iload 5 2) from rfl) rfl
theorem r_M_isThere_39 : je X 38 39 [l0, some (.inl x), l2, l3, l4, l5] S σ = je X 38 40 [l0, some (.inl x), l2, l3, l4, l5] (.inl x :: S) σ := je_iload (show jm_fe 38 39 = some (jk_iload 1 1) from rfl) rfl
theorem r_M_isThere_40 : je X 38 40 L (.inl q :: .inl p :: S) σ = if q ≤ p then je X 38 75 L S σ else je X 38 43 L S σ := je_icmp_ge (show jm_fe 38 40 = some (jk_icmp .ge 75) from rfl)
theorem r_M_isThere_43 : je X 38 43 [l0, l1, l2, l3, some (.inl x), l5] S σ = je X 38 45 [l0, l1, l2, l3, some (.inl x), l5] (.inl x :: S) σ := je_iload (show jm_fe 38 43 = some (jk_iload 4 2) from rfl) rfl
theorem r_M_isThere_45 : je X 38 45 L (.inl p :: S) σ = if p = 0 then je X 38 75 L S σ else je X 38 48 L S σ := je_if_eq (show jm_fe 38 45 = some (jk_if .eq 75) from rfl)
theorem r_M_isThere_48 : je X 38 48 [some (.inr r), l1, l2, l3, l4, l5] S σ = je X 38 49 [some (.inr r), l1, l2, l3, l4, l5] (.inr r :: S) σ := je_aload (show jm_fe 38 48 = some (jk_aload 0 1) from rfl) rfl
theorem r_M_isThere_49 : je X 38 49 L (.inr (.inl (some a)) :: S) σ = je_v X 38 52 L S σ (jm_gf σ.1 a 9 27) := je_getf (show jm_fe 38 49 = some (jk_getf 9 27) from rfl)
theorem r_M_isThere_52 : je X 38 52 [some (.inr r), l1, l2, l3, l4, l5] S σ = je X 38 53 [some (.inr r), l1, l2, l3, l4, l5] (.inr r :: S) σ := je_aload (show jm_fe 38 52 = some (jk_aload 0 1) from rfl) rfl
theorem r_M_isThere_53 : je X 38 53 [l0, l1, l2, l3, l4, some (.inl x)] S σ = je X 38 55 [l0, l1, l2, l3, l4, some (.inl x)] (.inl x :: S) σ := je_iload (show jm_fe 38 53 = some (jk_iload 5 2) from rfl) rfl
theorem r_M_isThere_55 (hc : jm_cl σ.1 a = some 9) (h8 : S.length ≤ 8) : je X 38 55 L (v0 :: .inr (.inl (some a)) :: S) σ = je_c X 38 58 L S (je X 35 0 [some (.inr (.inl (some a))), some v0] [] σ) := je_callV (as := [v0]) (S' := S) (show jm_fe 38 55 = some (jk_callV 35 1 9) from rfl) rfl hc h8
theorem r_M_isThere_58 : je X 38 58 L (.inl p :: .inr (.inl (some a)) :: S) σ = je_i X 38 59 L S σ (jm_al σ.1 a 0 p) := je_ald (show jm_fe 38 58 = some (jk_ald 0) from rfl)
theorem r_M_isThere_59 : je X 38 59 L (.inl p :: S) σ = if p = 0 then je X 38 62 L S σ else je X 38 66 L S σ := je_if_ne (show jm_fe 38 59 = some (jk_if .ne 66) from rfl)
theorem r_M_isThere_62 : je X 38 62 L S σ = je X 38 63 L (.inl 1 :: S) σ := je_const (show jm_fe 38 62 = some (jk_const 1 1) from rfl)
theorem r_M_isThere_63 : je X 38 63 L S σ = je X 38 67 L S σ := je_goto (show jm_fe 38 63 = some (jk_goto 67) from rfl)
theorem r_M_isThere_66 : je X 38 66 L S σ = je X 38 67 L (.inl 0 :: S) σ := je_const (show jm_fe 38 66 = some (jk_const 0 1) from rfl)
theorem r_M_isThere_67 : je X 38 67 [l0, l1, l2, l3, l4, l5] (.inl x :: S) σ = je X 38 69 [l0, l1, l2, l3, some (.inl x), l5] S σ := je_istore (show jm_fe 38 67 = some (jk_istore 4 2) from rfl) (Nat.le_of_ble_eq_true rfl)
theorem r_M_isThere_69 : je X 38 69 [l0, l1, l2, l3, l4, some (.inl x)] S σ = je X 38 72 [l0, l1, l2, l3, l4, some (.inl (x + (1)))] S σ := je_iinc (show jm_fe 38 69 = some (jk_iinc 5 (1)) from rfl) rfl
theorem r_M_isThere_72 : je X 38 72 L S σ = je X 38 37 L S σ := je_goto (show jm_fe 38 72 = some (jk_goto 37) from rfl)
theorem r_M_isThere_75 : je X 38 75 [l0, l1, l2, l3, some (.inl x), l5] S σ = je X 38 77 [l0, l1, l2, l3, some (.inl x), l5] (.inl x :: S) σ := je_iload (show jm_fe 38 75 = some (jk_iload 4 2) from rfl) rfl
theorem r_M_isThere_77 : je X 38 77 L (.inl p :: S) σ = if p = 0 then je X 38 101 L S σ else je X 38 80 L S σ := je_if_eq (show jm_fe 38 77 = some (jk_if .eq 101) from rfl)
theorem r_M_isThere_80 : je X 38 80 [l0, l1, some (.inl x), l3, l4, l5] S σ = je X 38 81 [l0, l1, some (.inl x), l3, l4, l5] (.inl x :: S) σ := je_iload (show jm_fe 38 80 = some (jk_iload 2 1) from rfl) rfl
theorem r_M_isThere_81 : je X 38 81 L (.inl p :: S) σ = if p = 0 then je X 38 97 L S σ else je X 38 84 L S σ := je_if_eq (show jm_fe 38 81 = some (jk_if .eq 97) from rfl)
theorem r_M_isThere_84 : je X 38 84 [some (.inr r), l1, l2, l3, l4, l5] S σ = je X 38 85 [some (.inr r), l1, l2, l3, l4, l5] (.inr r :: S) σ := je_aload (show jm_fe 38 84 = some (jk_aload 0 1) from rfl) rfl
theorem r_M_isThere_85 : je X 38 85 L (.inr (.inl (some a)) :: S) σ = je_v X 38 88 L S σ (jm_gf σ.1 a 9 27) := je_getf (show jm_fe 38 85 = some (jk_getf 9 27) from rfl)
theorem r_M_isThere_88 : je X 38 88 [some (.inr r), l1, l2, l3, l4, l5] S σ = je X 38 89 [some (.inr r), l1, l2, l3, l4, l5] (.inr r :: S) σ := je_aload (show jm_fe 38 88 = some (jk_aload 0 1) from rfl) rfl
theorem r_M_isThere_89 : je X 38 89 [l0, some (.inl x), l2, l3, l4, l5] S σ = je X 38 90 [l0, some (.inl x), l2, l3, l4, l5] (.inl x :: S) σ := je_iload (show jm_fe 38 89 = some (jk_iload 1 1) from rfl) rfl
theorem r_M_isThere_90 (hc : jm_cl σ.1 a = some 9) (h8 : S.length ≤ 8) : je X 38 90 L (v0 :: .inr (.inl (some a)) :: S) σ = je_c X 38 93 L S (je X 35 0 [some (.inr (.inl (some a))), some v0] [] σ) := je_callV (as := [v0]) (S' := S) (show jm_fe 38 90 = some (jk_callV 35 1 9) from rfl) rfl hc h8
theorem r_M_isThere_93 : je X 38 93 L (.inl p :: .inr (.inl (some a)) :: S) σ = je_i X 38 94 L S σ (jm_al σ.1 a 0 p) := je_ald (show jm_fe 38 93 = some (jk_ald 0) from rfl)
theorem r_M_isThere_94 : je X 38 94 L (.inl p :: S) σ = if p ≤ 0 then je X 38 101 L S σ else je X 38 97 L S σ := je_if_le (show jm_fe 38 94 = some (jk_if .le 101) from rfl)
theorem r_M_isThere_97 : je X 38 97 L S σ = je X 38 98 L (.inl 1 :: S) σ := je_const (show jm_fe 38 97 = some (jk_const 1 1) from rfl)
theorem r_M_isThere_98 : je X 38 98 L S σ = je X 38 102 L S σ := je_goto (show jm_fe 38 98 = some (jk_goto 102) from rfl)
theorem r_M_isThere_101 : je X 38 101 L S σ = je X 38 102 L (.inl 0 :: S) σ := je_const (show jm_fe 38 101 = some (jk_const 0 1) from rfl)
theorem r_M_isThere_102 (hx : p = 0 ∨ p = 1) : je X 38 102 L [.inl p] σ = some (some (.inl p), σ) := je_zret (show jm_fe 38 102 = some (jk_zret) from rfl) hx
theorem r_M_hasRoom_0 : je X 39 0 [some (.inr r)] S σ = je X 39 1 [some (.inr r)] (.inr r :: S) σ := je_aload (show jm_fe 39 0 = some (jk_aload 0 1) from rfl) rfl
theorem r_M_hasRoom_1 : je X 39 1 L (.inr (.inl (some a)) :: S) σ = je_v X 39 4 L S σ (jm_gf σ.1 a 9 25) := je_getf (show jm_fe 39 1 = some (jk_getf 9 25) from rfl)
theorem r_M_hasRoom_4 : je X 39 4 [some (.inr r)] S σ = je X 39 5 [some (.inr r)] (.inr r :: S) σ := je_aload (show jm_fe 39 4 = some (jk_aload 0 1) from rfl) rfl
theorem r_M_hasRoom_5 : je X 39 5 L (.inr (.inl (some a)) :: S) σ = je_v X 39 8 L S σ (jm_gf σ.1 a 9 22) := je_getf (show jm_fe 39 5 = some (jk_getf 9 22) from rfl)
theorem r_M_hasRoom_8 : je X 39 8 L S σ = je X 39 9 L (.inl 1 :: S) σ := je_const (show jm_fe 39 8 = some (jk_const 1 1) from rfl)
theorem r_M_hasRoom_9 : je X 39 9 L (.inl q :: .inl p :: S) σ = je X 39 10 L (.inl (p - q) :: S) σ := je_bin (show jm_fe 39 9 = some (jb_isub) from rfl)
theorem r_M_hasRoom_10 : je X 39 10 L (.inl p :: .inr (.inl (some a)) :: S) σ = je_i X 39 11 L S σ (jm_al σ.1 a 0 p) := je_ald (show jm_fe 39 10 = some (jk_ald 0) from rfl)
theorem r_M_hasRoom_11 : je X 39 11 L S σ = je X 39 13 L (.inl 16 :: S) σ := je_const (show jm_fe 39 11 = some (jk_const (16) 2) from rfl)
theorem r_M_hasRoom_13 : je X 39 13 L (.inl q :: .inl p :: S) σ = if q ≤ p then je X 39 20 L S σ else je X 39 16 L S σ := je_icmp_ge (show jm_fe 39 13 = some (jk_icmp .ge 20) from rfl)
theorem r_M_hasRoom_16 : je X 39 16 L S σ = je X 39 17 L (.inl 1 :: S) σ := je_const (show jm_fe 39 16 = some (jk_const 1 1) from rfl)
theorem r_M_hasRoom_17 : je X 39 17 L S σ = je X 39 21 L S σ := je_goto (show jm_fe 39 17 = some (jk_goto 21) from rfl)
theorem r_M_hasRoom_20 : je X 39 20 L S σ = je X 39 21 L (.inl 0 :: S) σ := je_const (show jm_fe 39 20 = some (jk_const 0 1) from rfl)
theorem r_M_hasRoom_21 (hx : p = 0 ∨ p = 1) : je X 39 21 L [.inl p] σ = some (some (.inl p), σ) := je_zret (show jm_fe 39 21 = some (jk_zret) from rfl) hx
theorem r_M_isLocal_0 : je X 40 0 [l0, some (.inl x)] S σ = je X 40 1 [l0, some (.inl x)] (.inl x :: S) σ := je_iload (show jm_fe 40 0 = some (jk_iload 1 1) from rfl) rfl
theorem r_M_isLocal_1 : je X 40 1 L (.inl p :: S) σ = if p < 0 then je X 40 28 L S σ else je X 40 4 L S σ := je_if_lt (show jm_fe 40 1 = some (jk_if .lt 28) from rfl)
theorem r_M_isLocal_4 : je X 40 4 [l0, some (.inl x)] S σ = je X 40 5 [l0, some (.inl x)] (.inl x :: S) σ := je_iload (show jm_fe 40 4 = some (jk_iload 1 1) from rfl) rfl
theorem r_M_isLocal_5 : je X 40 5 [some (.inr r), l1] S σ = je X 40 6 [some (.inr r), l1] (.inr r :: S) σ := je_aload (show jm_fe 40 5 = some (jk_aload 0 1) from rfl) rfl
theorem r_M_isLocal_6 : je X 40 6 L (.inr (.inl (some a)) :: S) σ = je_v X 40 9 L S σ (jm_gf σ.1 a 9 3) := je_getf (show jm_fe 40 6 = some (jk_getf 9 3) from rfl)
theorem r_M_isLocal_9 : je X 40 9 [some (.inr r), l1] S σ = je X 40 10 [some (.inr r), l1] (.inr r :: S) σ := je_aload (show jm_fe 40 9 = some (jk_aload 0 1) from rfl) rfl
theorem r_M_isLocal_10 : je X 40 10 L (.inr (.inl (some a)) :: S) σ = je_v X 40 13 L S σ (jm_gf σ.1 a 9 23) := je_getf (show jm_fe 40 10 = some (jk_getf 9 23) from rfl)
theorem r_M_isLocal_13 : je X 40 13 [some (.inr r), l1] S σ = je X 40 14 [some (.inr r), l1] (.inr r :: S) σ := je_aload (show jm_fe 40 13 = some (jk_aload 0 1) from rfl) rfl
theorem r_M_isLocal_14 : je X 40 14 L (.inr (.inl (some a)) :: S) σ = je_v X 40 17 L S σ (jm_gf σ.1 a 9 22) := je_getf (show jm_fe 40 14 = some (jk_getf 9 22) from rfl)
theorem r_M_isLocal_17 : je X 40 17 L S σ = je X 40 18 L (.inl 1 :: S) σ := je_const (show jm_fe 40 17 = some (jk_const 1 1) from rfl)
theorem r_M_isLocal_18 : je X 40 18 L (.inl q :: .inl p :: S) σ = je X 40 19 L (.inl (p - q) :: S) σ := je_bin (show jm_fe 40 18 = some (jb_isub) from rfl)
theorem r_M_isLocal_19 : je X 40 19 L (.inl p :: .inr (.inl (some a)) :: S) σ = je_i X 40 20 L S σ (jm_al σ.1 a 0 p) := je_ald (show jm_fe 40 19 = some (jk_ald 0) from rfl)
theorem r_M_isLocal_20 : je X 40 20 L (.inl p :: .inr (.inl (some a)) :: S) σ = je_i X 40 21 L S σ (jm_al σ.1 a 0 p) := je_ald (show jm_fe 40 20 = some (jk_ald 0) from rfl)
theorem r_M_isLocal_21 : je X 40 21 L (.inl q :: .inl p :: S) σ = if q ≤ p then je X 40 28 L S σ else je X 40 24 L S σ := je_icmp_ge (show jm_fe 40 21 = some (jk_icmp .ge 28) from rfl)
theorem r_M_isLocal_24 : je X 40 24 L S σ = je X 40 25 L (.inl 1 :: S) σ := je_const (show jm_fe 40 24 = some (jk_const 1 1) from rfl)
theorem r_M_isLocal_25 : je X 40 25 L S σ = je X 40 29 L S σ := je_goto (show jm_fe 40 25 = some (jk_goto 29) from rfl)
theorem r_M_isLocal_28 : je X 40 28 L S σ = je X 40 29 L (.inl 0 :: S) σ := je_const (show jm_fe 40 28 = some (jk_const 0 1) from rfl)
theorem r_M_isLocal_29 (hx : p = 0 ∨ p = 1) : je X 40 29 L [.inl p] σ = some (some (.inl p), σ) := je_zret (show jm_fe 40 29 = some (jk_zret) from rfl) hx
end JR
