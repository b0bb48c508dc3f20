section JR
variable {X : jm_X} {L : jm_L} {S : List jm_V} {σ : jm_S} {l0 l1 l2 l3 l4 l5 l6 l7 : Option jm_V} {x p q : Int32} {a : Nat} {r : Option Nat ⊕ Unit} {o : Option Nat} {u : Unit} {v w v0 v1 v2 v3 v4 v5 : jm_V}
theorem r_M_comeBack_0 : je X 48 0 [some (.inr r), l1, l2, l3] S σ = je X 48 1 [some (.inr r), l1, l2, l3] (.inr r :: S) σ := je_aload (show jm_fe 48 0 = some (jk_aload 0 1) from rfl) rfl
theorem r_M_comeBack_1 : je X 48 1 L (.inr (.inl (some a)) :: S) σ = je_v X 48 4 L S σ (jm_gf σ.1 a 9 4) := je_getf (show jm_fe 48 1 = some (jk_getf 9 4) from rfl)
theorem r_M_comeBack_4 : je X 48 4 [some (.inr r), l1, l2, l3] S σ = je X 48 5 [some (.inr r), l1, l2, l3] (.inr r :: S) σ := je_aload (show jm_fe 48 4 = some (jk_aload 0 1) from rfl) rfl
theorem r_M_comeBack_5 : je X 48 5 L (.inr (.inl (some a)) :: S) σ = je_v X 48 8 L S σ (jm_gf σ.1 a 9 23) := je_getf (show jm_fe 48 5 = some (jk_getf 9 23) from rfl)
theorem r_M_comeBack_8 : je X 48 8 [some (.inr r), l1, l2, l3] S σ = je X 48 9 [some (.inr r), l1, l2, l3] (.inr r :: S) σ := je_aload (show jm_fe 48 8 = some (jk_aload 0 1) from rfl) rfl
theorem r_M_comeBack_9 : je X 48 9 L (.inr (.inl (some a)) :: S) σ = je_v X 48 12 L S σ (jm_gf σ.1 a 9 22) := je_getf (show jm_fe 48 9 = some (jk_getf 9 22) from rfl)
theorem r_M_comeBack_12 : je X 48 12 L S σ = je X 48 13 L (.inl 1 :: S) σ := je_const (show jm_fe 48 12 = some (jk_const 1 1) from rfl)
theorem r_M_comeBack_13 : je X 48 13 L (.inl q :: .inl p :: S) σ = je X 48 14 L (.inl (p - q) :: S) σ := je_bin (show jm_fe 48 13 = some (jb_isub) from rfl)
theorem r_M_comeBack_14 : je X 48 14 L (.inl p :: .inr (.inl (some a)) :: S) σ = je_i X 48 15 L S σ (jm_al σ.1 a 0 p) := je_ald (show jm_fe 48 14 = some (jk_ald 0) from rfl)
theorem r_M_comeBack_15 : je X 48 15 L (.inl p :: .inr (.inl (some a)) :: S) σ = je_i X 48 16 L S σ (jm_al σ.1 a 0 p) := je_ald (show jm_fe 48 15 = some (jk_ald 0) from rfl)
theorem r_M_comeBack_16 : je X 48 16 L S σ = je X 48 17 L (.inl 1 :: S) σ := je_const (show jm_fe 48 16 = some (jk_const 1 1) from rfl)
theorem r_M_comeBack_17 : je X 48 17 L (.inl q :: .inl p :: S) σ = if p = q then je X 48 20 L S σ else je X 48 24 L S σ := je_icmp_ne (show jm_fe 48 17 = some (jk_icmp .ne 24) from rfl)
theorem r_M_comeBack_20 : je X 48 20 L S σ = je X 48 21 L (.inl 1 :: S) σ := je_const (show jm_fe 48 20 = some (jk_const 1 1) from rfl)
theorem r_M_comeBack_21 : je X 48 21 L S σ = je X 48 25 L S σ := je_goto (show jm_fe 48 21 = some (jk_goto 25) from rfl)
theorem r_M_comeBack_24 : je X 48 24 L S σ = je X 48 25 L (.inl 0 :: S) σ := je_const (show jm_fe 48 24 = some (jk_const 0 1) from rfl)
theorem r_M_comeBack_25 : je X 48 25 [l0, l1, l2, l3] (.inl x :: S) σ = je X 48 26 [l0, some (.inl x), l2, l3] S σ := je_istore (show jm_fe 48 25 = some (jk_istore 1 1) from rfl) (Nat.le_of_ble_eq_true rfl)
theorem r_M_comeBack_26 : je X 48 26 [l0, some (.inl x), l2, l3] S σ = je X 48 27 [l0, some (.inl x), l2, l3] (.inl x :: S) σ := je_iload (show jm_fe 48 26 = some (jk_iload 1 1) from rfl) rfl
theorem r_M_comeBack_27 : je X 48 27 L (.inl p :: S) σ = if p = 0 then je X 48 43 L S σ else je X 48 30 L S σ := je_if_eq (show jm_fe 48 27 = some (jk_if .eq 43) from rfl)
theorem r_M_comeBack_30 : je X 48 30 [some (.inr r), l1, l2, l3] S σ = je X 48 31 [some (.inr r), l1, l2, l3] (.inr r :: S) σ := je_aload (show jm_fe 48 30 = some (jk_aload 0 1) from rfl) rfl
theorem r_M_comeBack_31 : je X 48 31 L (.inr (.inl (some a)) :: S) σ = je_v X 48 34 L S σ (jm_gf σ.1 a 9 26) := je_getf (show jm_fe 48 31 = some (jk_getf 9 26) from rfl)
theorem r_M_comeBack_34 : je X 48 34 [some (.inr r), l1, l2, l3] S σ = je X 48 35 [some (.inr r), l1, l2, l3] (.inr r :: S) σ := je_aload (show jm_fe 48 34 = some (jk_aload 0 1) from rfl) rfl
theorem r_M_comeBack_35 : je X 48 35 L S σ = je X 48 36 L (.inl 0 :: S) σ := je_const (show jm_fe 48 35 = some (jk_const 0 1) from rfl)
theorem r_M_comeBack_36 (hc : jm_cl σ.1 a = some 9) (h8 : S.length ≤ 8) : je X 48 36 L (v0 :: .inr (.inl (some a)) :: S) σ = je_c X 48 39 L S (je X 35 0 [some (.inr (.inl (some a))), some v0] [] σ) := je_callV (as := [v0]) (S' := S) (show jm_fe 48 36 = some (jk_callV 35 1 9) from rfl) rfl hc h8
theorem r_M_comeBack_39 : je X 48 39 L (.inl p :: .inr (.inl (some a)) :: S) σ = je_i X 48 40 L S σ (jm_al σ.1 a 0 p) := je_ald (show jm_fe 48 39 = some (jk_ald 0) from rfl)
theorem r_M_comeBack_40 : je X 48 40 L S σ = je X 48 44 L S σ := je_goto (show jm_fe 48 40 = some (jk_goto 44) from rfl)
theorem r_M_comeBack_43 : je X 48 43 L S σ = je X 48 44 L (.inl 0 :: S) σ := je_const (show jm_fe 48 43 = some (jk_const 0 1) from rfl)
theorem r_M_comeBack_44 : je X 48 44 [l0, l1, l2, l3] (.inl x :: S) σ = je X 48 45 [l0, l1, some (.inl x), l3] S σ := je_istore (show jm_fe 48 44 = some (jk_istore 2 1) from rfl) (Nat.le_of_ble_eq_true rfl)
theorem r_M_comeBack_45 : je X 48 45 [l0, some (.inl x), l2, l3] S σ = je X 48 46 [l0, some (.inl x), l2, l3] (.inl x :: S) σ := je_iload (show jm_fe 48 45 = some (jk_iload 1 1) from rfl) rfl
theorem r_M_comeBack_46 : je X 48 46 L (.inl p :: S) σ = if p = 0 then je X 48 62 L S σ else je X 48 49 L S σ := je_if_eq (show jm_fe 48 46 = some (jk_if .eq 62) from rfl)
theorem r_M_comeBack_49 : je X 48 49 [some (.inr r), l1, l2, l3] S σ = je X 48 50 [some (.inr r), l1, l2, l3] (.inr r :: S) σ := je_aload (show jm_fe 48 49 = some (jk_aload 0 1) from rfl) rfl
theorem r_M_comeBack_50 : je X 48 50 L (.inr (.inl (some a)) :: S) σ = je_v X 48 53 L S σ (jm_gf σ.1 a 9 27) := je_getf (show jm_fe 48 50 = some (jk_getf 9 27) from rfl)
theorem r_M_comeBack_53 : je X 48 53 [some (.inr r), l1, l2, l3] S σ = je X 48 54 [some (.inr r), l1, l2, l3] (.inr r :: S) σ := je_aload (show jm_fe 48 53 = some (jk_aload 0 1) from rfl) rfl
theorem r_M_comeBack_54 : je X 48 54 L S σ = je X 48 55 L (.inl 0 :: S) σ := je_const (show jm_fe 48 54 = some (jk_const 0 1) from rfl)
theorem r_M_comeBack_55 (hc : jm_cl σ.1 a = some 9) (h8 : S.length ≤ 8) : je X 48 55 L (v0 :: .inr (.inl (some a)) :: S) σ = je_c X 48 58 L S (je X 35 0 [some (.inr (.inl (some a))), some v0] [] σ) := je_callV (as := [v0]) (S' := S) (show jm_fe 48 55 = some (jk_callV 35 1 9) from rfl) rfl hc h8
theorem r_M_comeBack_58 : je X 48 58 L (.inl p :: .inr (.inl (some a)) :: S) σ = je_i X 48 59 L S σ (jm_al σ.1 a 0 p) := je_ald (show jm_fe 48 58 = some (jk_ald 0) from rfl)
theorem r_M_comeBack_59 : je X 48 59 L S σ = je X 48 63 L S σ := je_goto (show jm_fe 48 59 = some (jk_goto 63) from rfl)
theorem r_M_comeBack_62 : je X 48 62 L S σ = je X 48 63 L (.inl 0 :: S) σ := je_const (show jm_fe 48 62 = some (jk_const 0 1) from rfl)
theorem r_M_comeBack_63 : je X 48 63 [l0, l1, l2, l3] (.inl x :: S) σ = je X 48 64 [l0, l1, l2, some (.inl x)] S σ := je_istore (show jm_fe 48 63 = some (jk_istore 3 1) from rfl) (Nat.le_of_ble_eq_true rfl)
theorem r_M_comeBack_64 : je X 48 64 [some (.inr r), l1, l2, l3] S σ = je X 48 65 [some (.inr r), l1, l2, l3] (.inr r :: S) σ := je_aload (show jm_fe 48 64 = some (jk_aload 0 1) from rfl) rfl
theorem r_M_comeBack_65 : je X 48 65 L (.inr (.inl (some a)) :: S) σ = je_v X 48 68 L S σ (jm_gf σ.1 a 9 22) := je_getf (show jm_fe 48 65 = some (jk_getf 9 22) from rfl)
theorem r_M_comeBack_68 : je X 48 68 L S σ = je X 48 69 L (.inl 1 :: S) σ := je_const (show jm_fe 48 68 = some (jk_const 1 1) from rfl)
theorem r_M_comeBack_69 : je X 48 69 L (.inl q :: .inl p :: S) σ = if p = q then je X 48 72 L S σ else je X 48 92 L S σ := je_icmp_ne (show jm_fe 48 69 = some (jk_icmp .ne 92) from rfl)
theorem r_M_comeBack_72 : je X 48 72 [some (.inr r), l1, l2, l3] S σ = je X 48 73 [some (.inr r), l1, l2, l3] (.inr r :: S) σ := je_aload (show jm_fe 48 72 = some (jk_aload 0 1) from rfl) rfl
theorem r_M_comeBack_73 : je X 48 73 L S σ = je X 48 74 L (.inl 0 :: S) σ := je_const (show jm_fe 48 73 = some (jk_const 0 1) from rfl)
theorem r_M_comeBack_74 : je X 48 74 [l0, l1, l2, some (.inl x)] S σ = je X 48 75 [l0, l1, l2, some (.inl x)] (.inl x :: S) σ := je_iload (show jm_fe 48 74 = some (jk_iload 3 1) from rfl) rfl
theorem r_M_comeBack_75 : je X 48 75 L (.inl p :: S) σ = if p ≤ 0 then je X 48 87 L S σ else je X 48 78 L S σ := je_if_le (show jm_fe 48 75 = some (jk_if .le 87) from rfl)
theorem r_M_comeBack_78 : je X 48 78 [some (.inr r), l1, l2, l3] S σ = je X 48 79 [some (.inr r), l1, l2, l3] (.inr r :: S) σ := je_aload (show jm_fe 48 78 = some (jk_aload 0 1) from rfl) rfl
theorem r_M_comeBack_79 : je X 48 79 L (.inr (.inl (some a)) :: S) σ = je_v X 48 82 L S σ (jm_gf σ.1 a 9 33) := je_getf (show jm_fe 48 79 = some (jk_getf 9 33) from rfl)
theorem r_M_comeBack_82 : je X 48 82 [l0, l1, l2, some (.inl x)] S σ = je X 48 83 [l0, l1, l2, some (.inl x)] (.inl x :: S) σ := je_iload (show jm_fe 48 82 = some (jk_iload 3 1) from rfl) rfl
theorem r_M_comeBack_83 : je X 48 83 L (.inl p :: .inr (.inl (some a)) :: S) σ = je_i X 48 84 L S σ (jm_al σ.1 a 0 p) := je_ald (show jm_fe 48 83 = some (jk_ald 0) from rfl)
theorem r_M_comeBack_84 : je X 48 84 L S σ = je X 48 88 L S σ := je_goto (show jm_fe 48 84 = some (jk_goto 88) from rfl)
theorem r_M_comeBack_87 : je X 48 87 [l0, l1, some (.inl x), l3] S σ = je X 48 88 [l0, l1, some (.inl x), l3] (.inl x :: S) σ := je_iload (show jm_fe 48 87 = some (jk_iload 2 1) from rfl) rfl
theorem r_M_comeBack_88 (hc : jm_cl σ.1 a = some 9) (h8 : S.length ≤ 8) : je X 48 88 L (v1 :: v0 :: .inr (.inl (some a)) :: S) σ = je_c X 48 91 L S (je X 33 0 [some (.inr (.inl (some a))), some v0, some v1] [] σ) := je_callV (as := [v0, v1]) (S' := S) (show jm_fe 48 88 = some (jk_callV 33 2 9) from rfl) rfl hc h8
theorem r_M_comeBack_91 : je X 48 91 L [] σ = some (none, σ) := je_ret (show jm_fe 48 91 = some (jk_ret) from rfl)
theorem r_M_comeBack_92 : je X 48 92 [some (.inr r), l1, l2, l3] S σ = je X 48 93 [some (.inr r), l1, l2, l3] (.inr r :: S) σ := je_aload (show jm_fe 48 92 = some (jk_aload 0 1) from rfl) rfl
theorem r_M_comeBack_93 : je X 48 93 L (v :: S) σ = je X 48 94 L (v :: v :: S) σ := je_dup (show jm_fe 48 93 = some (jk_dup) from rfl)
theorem r_M_comeBack_94 : je X 48 94 L (.inr (.inl (some a)) :: S) σ = je_v X 48 97 L S σ (jm_gf σ.1 a 9 22) := je_getf (show jm_fe 48 94 = some (jk_getf 9 22) from rfl)
theorem r_M_comeBack_97 : je X 48 97 L S σ = je X 48 98 L (.inl 1 :: S) σ := je_const (show jm_fe 48 97 = some (jk_const 1 1) from rfl)
theorem r_M_comeBack_98 : je X 48 98 L (.inl q :: .inl p :: S) σ = je X 48 99 L (.inl (p - q) :: S) σ := je_bin (show jm_fe 48 98 = some (jb_isub) from rfl)
theorem r_M_comeBack_99 : je X 48 99 L (v :: .inr (.inl (some a)) :: S) σ = je_h X 48 102 L S σ.2 (jm_pf σ.1 a 9 22 0 v) := je_putf (show jm_fe 48 99 = some (jk_putf 9 22 0) from rfl)
theorem r_M_comeBack_102 : je X 48 102 [l0, some (.inl x), l2, l3] S σ = je X 48 103 [l0, some (.inl x), l2, l3] (.inl x :: S) σ := je_iload (show jm_fe 48 102 = some (jk_iload 1 1) from rfl) rfl
theorem r_M_comeBack_103 : je X 48 103 L (.inl p :: S) σ = if p = 0 then je X 48 112 L S σ else je X 48 106 L S σ := je_if_eq (show jm_fe 48 103 = some (jk_if .eq 112) from rfl)
theorem r_M_comeBack_106 : je X 48 106 [some (.inr r), l1, l2, l3] S σ = je X 48 107 [some (.inr r), l1, l2, l3] (.inr r :: S) σ := je_aload (show jm_fe 48 106 = some (jk_aload 0 1) from rfl) rfl
theorem r_M_comeBack_107 : je X 48 107 [l0, l1, some (.inl x), l3] S σ = je X 48 108 [l0, l1, some (.inl x), l3] (.inl x :: S) σ := je_iload (show jm_fe 48 107 = some (jk_iload 2 1) from rfl) rfl
theorem r_M_comeBack_108 : je X 48 108 [l0, l1, l2, some (.inl x)] S σ = je X 48 109 [l0, l1, l2, some (.inl x)] (.inl x :: S) σ := je_iload (show jm_fe 48 108 = some (jk_iload 3 1) from rfl) rfl
theorem r_M_comeBack_109 (hc : jm_cl σ.1 a = some 9) (h8 : S.length ≤ 8) : je X 48 109 L (v1 :: v0 :: .inr (.inl (some a)) :: S) σ = je_c X 48 112 L S (je X 34 0 [some (.inr (.inl (some a))), some v0, some v1, none] [] σ) := je_callV (as := [v0, v1]) (S' := S) (show jm_fe 48 109 = some (jk_callV 34 2 9) from rfl) rfl hc h8
theorem r_M_comeBack_112 : je X 48 112 [some (.inr r), l1, l2, l3] S σ = je X 48 113 [some (.inr r), l1, l2, l3] (.inr r :: S) σ := je_aload (show jm_fe 48 112 = some (jk_aload 0 1) from rfl) rfl
theorem r_M_comeBack_113 (hc : jm_cl σ.1 a = some 9) (h8 : S.length ≤ 8) : je X 48 113 L (.inr (.inl (some a)) :: S) σ = je_c X 48 116 L S (je X 37 0 [some (.inr (.inl (some a)))] [] σ) := je_callV (as := []) (S' := S) (show jm_fe 48 113 = some (jk_callV 37 0 9) from rfl) rfl hc h8
theorem r_M_comeBack_116 : je X 48 116 L [] σ = some (none, σ) := je_ret (show jm_fe 48 116 = some (jk_ret) from rfl)
theorem r_M_swap_0 : je X 49 0 [some (.inr r), l1, l2, l3, l4] S σ = je X 49 1 [some (.inr r), l1, l2, l3, l4] (.inr r :: S) σ := je_aload (show jm_fe 49 0 = some (jk_aload 0 1) from rfl) rfl
theorem r_M_swap_1 : je X 49 1 L (.inr (.inl (some a)) :: S) σ = je_v X 49 4 L S σ (jm_gf σ.1 a 9 26) := je_getf (show jm_fe 49 1 = some (jk_getf 9 26) from rfl)
theorem r_M_swap_4 : je X 49 4 [some (.inr r), l1, l2, l3, l4] S σ = je X 49 5 [some (.inr r), l1, l2, l3, l4] (.inr r :: S) σ := je_aload (show jm_fe 49 4 = some (jk_aload 0 1) from rfl) rfl
theorem r_M_swap_5 : je X 49 5 L S σ = je X 49 6 L (.inl 0 :: S) σ := je_const (show jm_fe 49 5 = some (jk_const 0 1) from rfl)
theorem r_M_swap_6 (hc : jm_cl σ.1 a = some 9) (h8 : S.length ≤ 8) : je X 49 6 L (v0 :: .inr (.inl (some a)) :: S) σ = je_c X 49 9 L S (je X 35 0 [some (.inr (.inl (some a))), some v0] [] σ) := je_callV (as := [v0]) (S' := S) (show jm_fe 49 6 = some (jk_callV 35 1 9) from rfl) rfl hc h8
theorem r_M_swap_9 : je X 49 9 L (.inl p :: .inr (.inl (some a)) :: S) σ = je_i X 49 10 L S σ (jm_al σ.1 a 0 p) := je_ald (show jm_fe 49 9 = some (jk_ald 0) from rfl)
theorem r_M_swap_10 : je X 49 10 [l0, l1, l2, l3, l4] (.inl x :: S) σ = je X 49 11 [l0, some (.inl x), l2, l3, l4] S σ := je_istore (show jm_fe 49 10 = some (jk_istore 1 1) from rfl) (Nat.le_of_ble_eq_true rfl)
theorem r_M_swap_11 : je X 49 11 [some (.inr r), l1, l2, l3, l4] S σ = je X 49 12 [some (.inr r), l1, l2, l3, l4] (.inr r :: S) σ := je_aload (show jm_fe 49 11 = some (jk_aload 0 1) from rfl) rfl
theorem r_M_swap_12 : je X 49 12 L (.inr (.inl (some a)) :: S) σ = je_v X 49 15 L S σ (jm_gf σ.1 a 9 27) := je_getf (show jm_fe 49 12 = some (jk_getf 9 27) from rfl)
theorem r_M_swap_15 : je X 49 15 [some (.inr r), l1, l2, l3, l4] S σ = je X 49 16 [some (.inr r), l1, l2, l3, l4] (.inr r :: S) σ := je_aload (show jm_fe 49 15 = some (jk_aload 0 1) from rfl) rfl
theorem r_M_swap_16 : je X 49 16 L S σ = je X 49 17 L (.inl 0 :: S) σ := je_const (show jm_fe 49 16 = some (jk_const 0 1) from rfl)
theorem r_M_swap_17 (hc : jm_cl σ.1 a = some 9) (h8 : S.length ≤ 8) : je X 49 17 L (v0 :: .inr (.inl (some a)) :: S) σ = je_c X 49 20 L S (je X 35 0 [some (.inr (.inl (some a))), some v0] [] σ) := je_callV (as := [v0]) (S' := S) (show jm_fe 49 17 = some (jk_callV 35 1 9) from rfl) rfl hc h8
theorem r_M_swap_20 : je X 49 20 L (.inl p :: .inr (.inl (some a)) :: S) σ = je_i X 49 21 L S σ (jm_al σ.1 a 0 p) := je_ald (show jm_fe 49 20 = some (jk_ald 0) from rfl)
theorem r_M_swap_21 : je X 49 21 [l0, l1, l2, l3, l4] (.inl x :: S) σ = je X 49 22 [l0, l1, some (.inl x), l3, l4] S σ := je_istore (show jm_fe 49 21 = some (jk_istore 2 1) from rfl) (Nat.le_of_ble_eq_true rfl)
theorem r_M_swap_22 : je X 49 22 [some (.inr r), l1, l2, l3, l4] S σ = je X 49 23 [some (.inr r), l1, l2, l3, l4] (.inr r :: S) σ := je_aload (show jm_fe 49 22 = some (jk_aload 0 1) from rfl) rfl
theorem r_M_swap_23 : je X 49 23 L (.inr (.inl (some a)) :: S) σ = je_v X 49 26 L S σ (jm_gf σ.1 a 9 26) := je_getf (show jm_fe 49 23 = some (jk_getf 9 26) from rfl)
theorem r_M_swap_26 : je X 49 26 [some (.inr r), l1, l2, l3, l4] S σ = je X 49 27 [some (.inr r), l1, l2, l3, l4] (.inr r :: S) σ := je_aload (show jm_fe 49 26 = some (jk_aload 0 1) from rfl) rfl
theorem r_M_swap_27 : je X 49 27 L S σ = je X 49 28 L (.inl 1 :: S) σ := je_const (show jm_fe 49 27 = some (jk_const 1 1) from rfl)
theorem r_M_swap_28 (hc : jm_cl σ.1 a = some 9) (h8 : S.length ≤ 8) : je X 49 28 L (v0 :: .inr (.inl (some a)) :: S) σ = je_c X 49 31 L S (je X 35 0 [some (.inr (.inl (some a))), some v0] [] σ) := je_callV (as := [v0]) (S' := S) (show jm_fe 49 28 = some (jk_callV 35 1 9) from rfl) rfl hc h8
theorem r_M_swap_31 : je X 49 31 L (.inl p :: .inr (.inl (some a)) :: S) σ = je_i X 49 32 L S σ (jm_al σ.1 a 0 p) := je_ald (show jm_fe 49 31 = some (jk_ald 0) from rfl)
theorem r_M_swap_32 : je X 49 32 [l0, l1, l2, l3, l4] (.inl x :: S) σ = je X 49 33 [l0, l1, l2, some (.inl x), l4] S σ := je_istore (show jm_fe 49 32 = some (jk_istore 3 1) from rfl) (Nat.le_of_ble_eq_true rfl)
theorem r_M_swap_33 : je X 49 33 [some (.inr r), l1, l2, l3, l4] S σ = je X 49 34 [some (.inr r), l1, l2, l3, l4] (.inr r :: S) σ := je_aload (show jm_fe 49 33 = some (jk_aload 0 1) from rfl) rfl
theorem r_M_swap_34 : je X 49 34 L (.inr (.inl (some a)) :: S) σ = je_v X 49 37 L S σ (jm_gf σ.1 a 9 27) := je_getf (show jm_fe 49 34 = some (jk_getf 9 27) from rfl)
theorem r_M_swap_37 : je X 49 37 [some (.inr r), l1, l2, l3, l4] S σ = je X 49 38 [some (.inr r), l1, l2, l3, l4] (.inr r :: S) σ := je_aload (show jm_fe 49 37 = some (jk_aload 0 1) from rfl) rfl
theorem r_M_swap_38 : je X 49 38 L S σ = je X 49 39 L (.inl 1 :: S) σ := je_const (show jm_fe 49 38 = some (jk_const 1 1) from rfl)
theorem r_M_swap_39 (hc : jm_cl σ.1 a = some 9) (h8 : S.length ≤ 8) : je X 49 39 L (v0 :: .inr (.inl (some a)) :: S) σ = je_c X 49 42 L S (je X 35 0 [some (.inr (.inl (some a))), some v0] [] σ) := je_callV (as := [v0]) (S' := S) (show jm_fe 49 39 = some (jk_callV 35 1 9) from rfl) rfl hc h8
theorem r_M_swap_42 : je X 49 42 L (.inl p :: .inr (.inl (some a)) :: S) σ = je_i X 49 43 L S σ (jm_al σ.1 a 0 p) := je_ald (show jm_fe 49 42 = some (jk_ald 0) from rfl)
theorem r_M_swap_43 : je X 49 43 [l0, l1, l2, l3, l4] (.inl x :: S) σ = je X 49 45 [l0, l1, l2, l3, some (.inl x)] S σ := je_istore (show jm_fe 49 43 = some (jk_istore 4 2) from rfl) (Nat.le_of_ble_eq_true rfl)
theorem r_M_swap_45 : je X 49 45 [some (.inr r), l1, l2, l3, l4] S σ = je X 49 46 [some (.inr r), l1, l2, l3, l4] (.inr r :: S) σ := je_aload (show jm_fe 49 45 = some (jk_aload 0 1) from rfl) rfl
theorem r_M_swap_46 : je X 49 46 L S σ = je X 49 47 L (.inl 2 :: S) σ := je_const (show jm_fe 49 46 = some (jk_const 2 1) from rfl)
theorem r_M_swap_47 (hc : jm_cl σ.1 a = some 9) (h8 : S.length ≤ 8) : je X 49 47 L (v0 :: .inr (.inl (some a)) :: S) σ = je_c X 49 50 L S (je X 36 0 [some (.inr (.inl (some a))), some v0] [] σ) := je_callV (as := [v0]) (S' := S) (show jm_fe 49 47 = some (jk_callV 36 1 9) from rfl) rfl hc h8
theorem r_M_swap_50 : je X 49 50 [some (.inr r), l1, l2, l3, l4] S σ = je X 49 51 [some (.inr r), l1, l2, l3, l4] (.inr r :: S) σ := je_aload (show jm_fe 49 50 = some (jk_aload 0 1) from rfl) rfl
theorem r_M_swap_51 : je X 49 51 [l0, some (.inl x), l2, l3, l4] S σ = je X 49 52 [l0, some (.inl x), l2, l3, l4] (.inl x :: S) σ := je_iload (show jm_fe 49 51 = some (jk_iload 1 1) from rfl) rfl
theorem r_M_swap_52 : je X 49 52 [l0, l1, some (.inl x), l3, l4] S σ = je X 49 53 [l0, l1, some (.inl x), l3, l4] (.inl x :: S) σ := je_iload (show jm_fe 49 52 = some (jk_iload 2 1) from rfl) rfl
theorem r_M_swap_53 (hc : jm_cl σ.1 a = some 9) (h8 : S.length ≤ 8) : je X 49 53 L (v1 :: v0 :: .inr (.inl (some a)) :: S) σ = je_c X 49 56 L S (je X 34 0 [some (.inr (.inl (some a))), some v0, some v1, none] [] σ) := je_callV (as := [v0, v1]) (S' := S) (show jm_fe 49 53 = some (jk_callV 34 2 9) from rfl) rfl hc h8
theorem r_M_swap_56 : je X 49 56 [some (.inr r), l1, l2, l3, l4] S σ = je X 49 57 [some (.inr r), l1, l2, l3, l4] (.inr r :: S) σ := je_aload (show jm_fe 49 56 = some (jk_aload 0 1) from rfl) rfl
theorem r_M_swap_57 : je X 49 57 [l0, l1, l2, some (.inl x), l4] S σ = je X 49 58 [l0, l1, l2, some (.inl x), l4] (.inl x :: S) σ := je_iload (show jm_fe 49 57 = some (jk_iload 3 1) from rfl) rfl
theorem r_M_swap_58 : je X 49 58 [l0, l1, l2, l3, some (.inl x)] S σ = je X 49 60 [l0, l1, l2, l3, some (.inl x)] (.inl x :: S) σ := je_iload (show jm_fe 49 58 = some (jk_iload 4 2) from rfl) rfl
theorem r_M_swap_60 (hc : jm_cl σ.1 a = some 9) (h8 : S.length ≤ 8) : je X 49 60 L (v1 :: v0 :: .inr (.inl (some a)) :: S) σ = je_c X 49 63 L S (je X 34 0 [some (.inr (.inl (some a))), some v0, some v1, none] [] σ) := je_callV (as := [v0, v1]) (S' := S) (show jm_fe 49 60 = some (jk_callV 34 2 9) from rfl) rfl hc h8
theorem r_M_swap_63 : je X 49 63 L [] σ = some (none, σ) := je_ret (show jm_fe 49 63 = some (jk_ret) from rfl)
theorem r_M_keep_0 : je X 50 0 [some (.inr r), l1] S σ = je X 50 1 [some (.inr r), l1] (.inr r :: S) σ := je_aload (show jm_fe 50 0 = some (jk_aload 0 1) from rfl) rfl
theorem r_M_keep_1 : je X 50 1 L (.inr (.inl (some a)) :: S) σ = je_v X 50 4 L S σ (jm_gf σ.1 a 9 28) := je_getf (show jm_fe 50 1 = some (jk_getf 9 28) from rfl)
theorem r_M_keep_4 : je X 50 4 L S σ = je X 50 6 L (.inl 8 :: S) σ := je_const (show jm_fe 50 4 = some (jk_const (8) 2) from rfl)
theorem r_M_keep_6 : je X 50 6 [some (.inr r), l1] S σ = je X 50 7 [some (.inr r), l1] (.inr r :: S) σ := je_aload (show jm_fe 50 6 = some (jk_aload 0 1) from rfl) rfl
theorem r_M_keep_7 : je X 50 7 L (.inr (.inl (some a)) :: S) σ = je_v X 50 10 L S σ (jm_gf σ.1 a 9 22) := je_getf (show jm_fe 50 7 = some (jk_getf 9 22) from rfl)
theorem r_M_keep_10 : je X 50 10 L S σ = je X 50 11 L (.inl 1 :: S) σ := je_const (show jm_fe 50 10 = some (jk_const 1 1) from rfl)
theorem r_M_keep_11 : je X 50 11 L (.inl q :: .inl p :: S) σ = je X 50 12 L (.inl (p - q) :: S) σ := je_bin (show jm_fe 50 11 = some (jb_isub) from rfl)
theorem r_M_keep_12 : je X 50 12 L (.inl q :: .inl p :: S) σ = je X 50 13 L (.inl (p * q) :: S) σ := je_bin (show jm_fe 50 12 = some (jb_imul) from rfl)
theorem r_M_keep_13 : je X 50 13 [l0, some (.inl x)] S σ = je X 50 14 [l0, some (.inl x)] (.inl x :: S) σ := je_iload (show jm_fe 50 13 = some (jk_iload 1 1) from rfl) rfl
theorem r_M_keep_14 : je X 50 14 L (.inl q :: .inl p :: S) σ = je X 50 15 L (.inl (p + q) :: S) σ := je_bin (show jm_fe 50 14 = some (jb_iadd) from rfl)
theorem r_M_keep_15 : je X 50 15 [some (.inr r), l1] S σ = je X 50 16 [some (.inr r), l1] (.inr r :: S) σ := je_aload (show jm_fe 50 15 = some (jk_aload 0 1) from rfl) rfl
theorem r_M_keep_16 : je X 50 16 L (.inr (.inl (some a)) :: S) σ = je_v X 50 19 L S σ (jm_gf σ.1 a 9 26) := je_getf (show jm_fe 50 16 = some (jk_getf 9 26) from rfl)
theorem r_M_keep_19 : je X 50 19 [some (.inr r), l1] S σ = je X 50 20 [some (.inr r), l1] (.inr r :: S) σ := je_aload (show jm_fe 50 19 = some (jk_aload 0 1) from rfl) rfl
theorem r_M_keep_20 : je X 50 20 L S σ = je X 50 21 L (.inl 0 :: S) σ := je_const (show jm_fe 50 20 = some (jk_const 0 1) from rfl)
theorem r_M_keep_21 (hc : jm_cl σ.1 a = some 9) (h8 : S.length ≤ 8) : je X 50 21 L (v0 :: .inr (.inl (some a)) :: S) σ = je_c X 50 24 L S (je X 35 0 [some (.inr (.inl (some a))), some v0] [] σ) := je_callV (as := [v0]) (S' := S) (show jm_fe 50 21 = some (jk_callV 35 1 9) from rfl) rfl hc h8
theorem r_M_keep_24 : je X 50 24 L (.inl p :: .inr (.inl (some a)) :: S) σ = je_i X 50 25 L S σ (jm_al σ.1 a 0 p) := je_ald (show jm_fe 50 24 = some (jk_ald 0) from rfl)
theorem r_M_keep_25 : je X 50 25 L (.inl q :: .inl p :: .inr (.inl (some a)) :: S) σ = je_h X 50 26 L S σ.2 (jm_as σ.1 a 0 p q) := je_iast (show jm_fe 50 25 = some (jk_iast) from rfl)
theorem r_M_keep_26 : je X 50 26 [some (.inr r), l1] S σ = je X 50 27 [some (.inr r), l1] (.inr r :: S) σ := je_aload (show jm_fe 50 26 = some (jk_aload 0 1) from rfl) rfl
theorem r_M_keep_27 : je X 50 27 L (.inr (.inl (some a)) :: S) σ = je_v X 50 30 L S σ (jm_gf σ.1 a 9 29) := je_getf (show jm_fe 50 27 = some (jk_getf 9 29) from rfl)
theorem r_M_keep_30 : je X 50 30 L S σ = je X 50 32 L (.inl 8 :: S) σ := je_const (show jm_fe 50 30 = some (jk_const (8) 2) from rfl)
theorem r_M_keep_32 : je X 50 32 [some (.inr r), l1] S σ = je X 50 33 [some (.inr r), l1] (.inr r :: S) σ := je_aload (show jm_fe 50 32 = some (jk_aload 0 1) from rfl) rfl
theorem r_M_keep_33 : je X 50 33 L (.inr (.inl (some a)) :: S) σ = je_v X 50 36 L S σ (jm_gf σ.1 a 9 22) := je_getf (show jm_fe 50 33 = some (jk_getf 9 22) from rfl)
theorem r_M_keep_36 : je X 50 36 L S σ = je X 50 37 L (.inl 1 :: S) σ := je_const (show jm_fe 50 36 = some (jk_const 1 1) from rfl)
theorem r_M_keep_37 : je X 50 37 L (.inl q :: .inl p :: S) σ = je X 50 38 L (.inl (p - q) :: S) σ := je_bin (show jm_fe 50 37 = some (jb_isub) from rfl)
theorem r_M_keep_38 : je X 50 38 L (.inl q :: .inl p :: S) σ = je X 50 39 L (.inl (p * q) :: S) σ := je_bin (show jm_fe 50 38 = some (jb_imul) from rfl)
theorem r_M_keep_39 : je X 50 39 [l0, some (.inl x)] S σ = je X 50 40 [l0, some (.inl x)] (.inl x :: S) σ := je_iload (show jm_fe 50 39 = some (jk_iload 1 1) from rfl) rfl
theorem r_M_keep_40 : je X 50 40 L (.inl q :: .inl p :: S) σ = je X 50 41 L (.inl (p + q) :: S) σ := je_bin (show jm_fe 50 40 = some (jb_iadd) from rfl)
theorem r_M_keep_41 : je X 50 41 [some (.inr r), l1] S σ = je X 50 42 [some (.inr r), l1] (.inr r :: S) σ := je_aload (show jm_fe 50 41 = some (jk_aload 0 1) from rfl) rfl
theorem r_M_keep_42 : je X 50 42 L (.inr (.inl (some a)) :: S) σ = je_v X 50 45 L S σ (jm_gf σ.1 a 9 27) := je_getf (show jm_fe 50 42 = some (jk_getf 9 27) from rfl)
theorem r_M_keep_45 : je X 50 45 [some (.inr r), l1] S σ = je X 50 46 [some (.inr r), l1] (.inr r :: S) σ := je_aload (show jm_fe 50 45 = some (jk_aload 0 1) from rfl) rfl
theorem r_M_keep_46 : je X 50 46 L S σ = je X 50 47 L (.inl 0 :: S) σ := je_const (show jm_fe 50 46 = some (jk_const 0 1) from rfl)
theorem r_M_keep_47 (hc : jm_cl σ.1 a = some 9) (h8 : S.length ≤ 8) : je X 50 47 L (v0 :: .inr (.inl (some a)) :: S) σ = je_c X 50 50 L S (je X 35 0 [some (.inr (.inl (some a))), some v0] [] σ) := je_callV (as := [v0]) (S' := S) (show jm_fe 50 47 = some (jk_callV 35 1 9) from rfl) rfl hc h8
theorem r_M_keep_50 : je X 50 50 L (.inl p :: .inr (.inl (some a)) :: S) σ = je_i X 50 51 L S σ (jm_al σ.1 a 0 p) := je_ald (show jm_fe 50 50 = some (jk_ald 0) from rfl)
theorem r_M_keep_51 : je X 50 51 L (.inl q :: .inl p :: .inr (.inl (some a)) :: S) σ = je_h X 50 52 L S σ.2 (jm_as σ.1 a 0 p q) := je_iast (show jm_fe 50 51 = some (jk_iast) from rfl)
theorem r_M_keep_52 : je X 50 52 [some (.inr r), l1] S σ = je X 50 53 [some (.inr r), l1] (.inr r :: S) σ := je_aload (show jm_fe 50 52 = some (jk_aload 0 1) from rfl) rfl
theorem r_M_keep_53 : je X 50 53 L S σ = je X 50 54 L (.inl 1 :: S) σ := je_const (show jm_fe 50 53 = some (jk_const 1 1) from rfl)
theorem r_M_keep_54 (hc : jm_cl σ.1 a = some 9) (h8 : S.length ≤ 8) : je X 50 54 L (v0 :: .inr (.inl (some a)) :: S) σ = je_c X 50 57 L S (je X 36 0 [some (.inr (.inl (some a))), some v0] [] σ) := je_callV (as := [v0]) (S' := S) (show jm_fe 50 54 = some (jk_callV 36 1 9) from rfl) rfl hc h8
theorem r_M_keep_57 : je X 50 57 L [] σ = some (none, σ) := je_ret (show jm_fe 50 57 = some (jk_ret) from rfl)
theorem r_M_move_0 : je X 51 0 [l0, some (.inl x), l2] S σ = je X 51 1 [l0, some (.inl x), l2] (.inl x :: S) σ := je_iload (show jm_fe 51 0 = some (jk_iload 1 1) from rfl) rfl
theorem r_M_move_1 : je X 51 1 L (.inl p :: S) σ = je X 51 (jm_sw [(0, 36), (1, 45), (2, 53), (3, 80), (4, 87)] 126 p) L S σ := je_sw (show jm_fe 51 1 = some (jk_sw [(0, 36), (1, 45), (2, 53), (3, 80), (4, 87)] 126) from rfl)
theorem r_M_move_36 : je X 51 36 [some (.inr r), l1, l2] S σ = je X 51 37 [some (.inr r), l1, l2] (.inr r :: S) σ := je_aload (show jm_fe 51 36 = some (jk_aload 0 1) from rfl) rfl
theorem r_M_move_37 : je X 51 37 [l0, l1, some (.inl x)] S σ = je X 51 38 [l0, l1, some (.inl x)] (.inl x :: S) σ := je_iload (show jm_fe 51 37 = some (jk_iload 2 1) from rfl) rfl
theorem r_M_move_38 : je X 51 38 L S σ = je X 51 39 L (.inl 0 :: S) σ := je_const (show jm_fe 51 38 = some (jk_const 0 1) from rfl)
theorem r_M_move_39 (hc : jm_cl σ.1 a = some 9) (h8 : S.length ≤ 8) : je X 51 39 L (v1 :: v0 :: .inr (.inl (some a)) :: S) σ = je_c X 51 42 L S (je X 34 0 [some (.inr (.inl (some a))), some v0, some v1, none] [] σ) := je_callV (as := [v0, v1]) (S' := S) (show jm_fe 51 39 = some (jk_callV 34 2 9) from rfl) rfl hc h8
theorem r_M_move_42 : je X 51 42 L S σ = je X 51 131 L S σ := je_goto (show jm_fe 51 42 = some (jk_goto 131) from rfl)
theorem r_M_move_45 : je X 51 45 [some (.inr r), l1, l2] S σ = je X 51 46 [some (.inr r), l1, l2] (.inr r :: S) σ := je_aload (show jm_fe 51 45 = some (jk_aload 0 1) from rfl) rfl
theorem r_M_move_46 : je X 51 46 L S σ = je X 51 47 L (.inl 1 :: S) σ := je_const (show jm_fe 51 46 = some (jk_const 1 1) from rfl)
theorem r_M_move_47 (hc : jm_cl σ.1 a = some 9) (h8 : S.length ≤ 8) : je X 51 47 L (v0 :: .inr (.inl (some a)) :: S) σ = je_c X 51 50 L S (je X 36 0 [some (.inr (.inl (some a))), some v0] [] σ) := je_callV (as := [v0]) (S' := S) (show jm_fe 51 47 = some (jk_callV 36 1 9) from rfl) rfl hc h8
theorem r_M_move_50 : je X 51 50 L S σ = je X 51 131 L S σ := je_goto (show jm_fe 51 50 = some (jk_goto 131) from rfl)
theorem r_M_move_53 : je X 51 53 [some (.inr r), l1, l2] S σ = je X 51 54 [some (.inr r), l1, l2] (.inr r :: S) σ := je_aload (show jm_fe 51 53 = some (jk_aload 0 1) from rfl) rfl
theorem r_M_move_54 : je X 51 54 [some (.inr r), l1, l2] S σ = je X 51 55 [some (.inr r), l1, l2] (.inr r :: S) σ := je_aload (show jm_fe 51 54 = some (jk_aload 0 1) from rfl) rfl
theorem r_M_move_55 : je X 51 55 L (.inr (.inl (some a)) :: S) σ = je_v X 51 58 L S σ (jm_gf σ.1 a 9 26) := je_getf (show jm_fe 51 55 = some (jk_getf 9 26) from rfl)
theorem r_M_move_58 : je X 51 58 [some (.inr r), l1, l2] S σ = je X 51 59 [some (.inr r), l1, l2] (.inr r :: S) σ := je_aload (show jm_fe 51 58 = some (jk_aload 0 1) from rfl) rfl
theorem r_M_move_59 : je X 51 59 L S σ = je X 51 60 L (.inl 0 :: S) σ := je_const (show jm_fe 51 59 = some (jk_const 0 1) from rfl)
theorem r_M_move_60 (hc : jm_cl σ.1 a = some 9) (h8 : S.length ≤ 8) : je X 51 60 L (v0 :: .inr (.inl (some a)) :: S) σ = je_c X 51 63 L S (je X 35 0 [some (.inr (.inl (some a))), some v0] [] σ) := je_callV (as := [v0]) (S' := S) (show jm_fe 51 60 = some (jk_callV 35 1 9) from rfl) rfl hc h8
theorem r_M_move_63 : je X 51 63 L (.inl p :: .inr (.inl (some a)) :: S) σ = je_i X 51 64 L S σ (jm_al σ.1 a 0 p) := je_ald (show jm_fe 51 63 = some (jk_ald 0) from rfl)
theorem r_M_move_64 : je X 51 64 [some (.inr r), l1, l2] S σ = je X 51 65 [some (.inr r), l1, l2] (.inr r :: S) σ := je_aload (show jm_fe 51 64 = some (jk_aload 0 1) from rfl) rfl
theorem r_M_move_65 : je X 51 65 L (.inr (.inl (some a)) :: S) σ = je_v X 51 68 L S σ (jm_gf σ.1 a 9 27) := je_getf (show jm_fe 51 65 = some (jk_getf 9 27) from rfl)
theorem r_M_move_68 : je X 51 68 [some (.inr r), l1, l2] S σ = je X 51 69 [some (.inr r), l1, l2] (.inr r :: S) σ := je_aload (show jm_fe 51 68 = some (jk_aload 0 1) from rfl) rfl
theorem r_M_move_69 : je X 51 69 L S σ = je X 51 70 L (.inl 0 :: S) σ := je_const (show jm_fe 51 69 = some (jk_const 0 1) from rfl)
theorem r_M_move_70 (hc : jm_cl σ.1 a = some 9) (h8 : S.length ≤ 8) : je X 51 70 L (v0 :: .inr (.inl (some a)) :: S) σ = je_c X 51 73 L S (je X 35 0 [some (.inr (.inl (some a))), some v0] [] σ) := je_callV (as := [v0]) (S' := S) (show jm_fe 51 70 = some (jk_callV 35 1 9) from rfl) rfl hc h8
theorem r_M_move_73 : je X 51 73 L (.inl p :: .inr (.inl (some a)) :: S) σ = je_i X 51 74 L S σ (jm_al σ.1 a 0 p) := je_ald (show jm_fe 51 73 = some (jk_ald 0) from rfl)
theorem r_M_move_74 (hc : jm_cl σ.1 a = some 9) (h8 : S.length ≤ 8) : je X 51 74 L (v1 :: v0 :: .inr (.inl (some a)) :: S) σ = je_c X 51 77 L S (je X 34 0 [some (.inr (.inl (some a))), some v0, some v1, none] [] σ) := je_callV (as := [v0, v1]) (S' := S) (show jm_fe 51 74 = some (jk_callV 34 2 9) from rfl) rfl hc h8
theorem r_M_move_77 : je X 51 77 L S σ = je X 51 131 L S σ := je_goto (show jm_fe 51 77 = some (jk_goto 131) from rfl)
theorem r_M_move_80 : je X 51 80 [some (.inr r), l1, l2] S σ = je X 51 81 [some (.inr r), l1, l2] (.inr r :: S) σ := je_aload (show jm_fe 51 80 = some (jk_aload 0 1) from rfl) rfl
theorem r_M_move_81 (hc : jm_cl σ.1 a = some 9) (h8 : S.length ≤ 8) : je X 51 81 L (.inr (.inl (some a)) :: S) σ = je_c X 51 84 L S (je X 49 0 [some (.inr (.inl (some a))), none, none, none, none] [] σ) := je_callV (as := []) (S' := S) (show jm_fe 51 81 = some (jk_callV 49 0 9) from rfl) rfl hc h8
theorem r_M_move_84 : je X 51 84 L S σ = je X 51 131 L S σ := je_goto (show jm_fe 51 84 = some (jk_goto 131) from rfl)
theorem r_M_move_87 : je X 51 87 [some (.inr r), l1, l2] S σ = je X 51 88 [some (.inr r), l1, l2] (.inr r :: S) σ := je_aload (show jm_fe 51 87 = some (jk_aload 0 1) from rfl) rfl
theorem r_M_move_88 : je X 51 88 [some (.inr r), l1, l2] S σ = je X 51 89 [some (.inr r), l1, l2] (.inr r :: S) σ := je_aload (show jm_fe 51 88 = some (jk_aload 0 1) from rfl) rfl
theorem r_M_move_89 : je X 51 89 L (.inr (.inl (some a)) :: S) σ = je_v X 51 92 L S σ (jm_gf σ.1 a 9 28) := je_getf (show jm_fe 51 89 = some (jk_getf 9 28) from rfl)
theorem r_M_move_92 : je X 51 92 L S σ = je X 51 94 L (.inl 8 :: S) σ := je_const (show jm_fe 51 92 = some (jk_const (8) 2) from rfl)
theorem r_M_move_94 : je X 51 94 [some (.inr r), l1, l2] S σ = je X 51 95 [some (.inr r), l1, l2] (.inr r :: S) σ := je_aload (show jm_fe 51 94 = some (jk_aload 0 1) from rfl) rfl
theorem r_M_move_95 : je X 51 95 L (.inr (.inl (some a)) :: S) σ = je_v X 51 98 L S σ (jm_gf σ.1 a 9 22) := je_getf (show jm_fe 51 95 = some (jk_getf 9 22) from rfl)
theorem r_M_move_98 : je X 51 98 L S σ = je X 51 99 L (.inl 1 :: S) σ := je_const (show jm_fe 51 98 = some (jk_const 1 1) from rfl)
theorem r_M_move_99 : je X 51 99 L (.inl q :: .inl p :: S) σ = je X 51 100 L (.inl (p - q) :: S) σ := je_bin (show jm_fe 51 99 = some (jb_isub) from rfl)
theorem r_M_move_100 : je X 51 100 L (.inl q :: .inl p :: S) σ = je X 51 101 L (.inl (p * q) :: S) σ := je_bin (show jm_fe 51 100 = some (jb_imul) from rfl)
theorem r_M_move_101 : je X 51 101 [l0, l1, some (.inl x)] S σ = je X 51 102 [l0, l1, some (.inl x)] (.inl x :: S) σ := je_iload (show jm_fe 51 101 = some (jk_iload 2 1) from rfl) rfl
theorem r_M_move_102 : je X 51 102 L (.inl q :: .inl p :: S) σ = je X 51 103 L (.inl (p + q) :: S) σ := je_bin (show jm_fe 51 102 = some (jb_iadd) from rfl)
theorem r_M_move_103 : je X 51 103 L (.inl p :: .inr (.inl (some a)) :: S) σ = je_i X 51 104 L S σ (jm_al σ.1 a 0 p) := je_ald (show jm_fe 51 103 = some (jk_ald 0) from rfl)
theorem r_M_move_104 : je X 51 104 [some (.inr r), l1, l2] S σ = je X 51 105 [some (.inr r), l1, l2] (.inr r :: S) σ := je_aload (show jm_fe 51 104 = some (jk_aload 0 1) from rfl) rfl
theorem r_M_move_105 : je X 51 105 L (.inr (.inl (some a)) :: S) σ = je_v X 51 108 L S σ (jm_gf σ.1 a 9 29) := je_getf (show jm_fe 51 105 = some (jk_getf 9 29) from rfl)
theorem r_M_move_108 : je X 51 108 L S σ = je X 51 110 L (.inl 8 :: S) σ := je_const (show jm_fe 51 108 = some (jk_const (8) 2) from rfl)
theorem r_M_move_110 : je X 51 110 [some (.inr r), l1, l2] S σ = je X 51 111 [some (.inr r), l1, l2] (.inr r :: S) σ := je_aload (show jm_fe 51 110 = some (jk_aload 0 1) from rfl) rfl
theorem r_M_move_111 : je X 51 111 L (.inr (.inl (some a)) :: S) σ = je_v X 51 114 L S σ (jm_gf σ.1 a 9 22) := je_getf (show jm_fe 51 111 = some (jk_getf 9 22) from rfl)
theorem r_M_move_114 : je X 51 114 L S σ = je X 51 115 L (.inl 1 :: S) σ := je_const (show jm_fe 51 114 = some (jk_const 1 1) from rfl)
theorem r_M_move_115 : je X 51 115 L (.inl q :: .inl p :: S) σ = je X 51 116 L (.inl (p - q) :: S) σ := je_bin (show jm_fe 51 115 = some (jb_isub) from rfl)
theorem r_M_move_116 : je X 51 116 L (.inl q :: .inl p :: S) σ = je X 51 117 L (.inl (p * q) :: S) σ := je_bin (show jm_fe 51 116 = some (jb_imul) from rfl)
theorem r_M_move_117 : je X 51 117 [l0, l1, some (.inl x)] S σ = je X 51 118 [l0, l1, some (.inl x)] (.inl x :: S) σ := je_iload (show jm_fe 51 117 = some (jk_iload 2 1) from rfl) rfl
theorem r_M_move_118 : je X 51 118 L (.inl q :: .inl p :: S) σ = je X 51 119 L (.inl (p + q) :: S) σ := je_bin (show jm_fe 51 118 = some (jb_iadd) from rfl)
theorem r_M_move_119 : je X 51 119 L (.inl p :: .inr (.inl (some a)) :: S) σ = je_i X 51 120 L S σ (jm_al σ.1 a 0 p) := je_ald (show jm_fe 51 119 = some (jk_ald 0) from rfl)
theorem r_M_move_120 (hc : jm_cl σ.1 a = some 9) (h8 : S.length ≤ 8) : je X 51 120 L (v1 :: v0 :: .inr (.inl (some a)) :: S) σ = je_c X 51 123 L S (je X 34 0 [some (.inr (.inl (some a))), some v0, some v1, none] [] σ) := je_callV (as := [v0, v1]) (S' := S) (show jm_fe 51 120 = some (jk_callV 34 2 9) from rfl) rfl hc h8
theorem r_M_move_123 : je X 51 123 L S σ = je X 51 131 L S σ := je_goto (show jm_fe 51 123 = some (jk_goto 131) from rfl)
theorem r_M_move_126 : je X 51 126 [some (.inr r), l1, l2] S σ = je X 51 127 [some (.inr r), l1, l2] (.inr r :: S) σ := je_aload (show jm_fe 51 126 = some (jk_aload 0 1) from rfl) rfl
theorem r_M_move_127 : je X 51 127 [l0, l1, some (.inl x)] S σ = je X 51 128 [l0, l1, some (.inl x)] (.inl x :: S) σ := je_iload (show jm_fe 51 127 = some (jk_iload 2 1) from rfl) rfl
theorem r_M_move_128 (hc : jm_cl σ.1 a = some 9) (h8 : S.length ≤ 8) : je X 51 128 L (v0 :: .inr (.inl (some a)) :: S) σ = je_c X 51 131 L S (je X 50 0 [some (.inr (.inl (some a))), some v0] [] σ) := je_callV (as := [v0]) (S' := S) (show jm_fe 51 128 = some (jk_callV 50 1 9) from rfl) rfl hc h8
theorem r_M_move_131 : je X 51 131 [some (.inr r), l1, l2] S σ = je X 51 132 [some (.inr r), l1, l2] (.inr r :: S) σ := je_aload (show jm_fe 51 131 = some (jk_aload 0 1) from rfl) rfl
theorem r_M_move_132 (hc : jm_cl σ.1 a = some 9) (h8 : S.length ≤ 8) : je X 51 132 L (.inr (.inl (some a)) :: S) σ = je_c X 51 135 L S (je X 37 0 [some (.inr (.inl (some a)))] [] σ) := je_callV (as := []) (S' := S) (show jm_fe 51 132 = some (jk_callV 37 0 9) from rfl) rfl hc h8
theorem r_M_move_135 : je X 51 135 L [] σ = some (none, σ) := je_ret (show jm_fe 51 135 = some (jk_ret) from rfl)
theorem r_M_jump_0 : je X 52 0 [l0, some (.inl x), l2, l3, l4] S σ = je X 52 1 [l0, some (.inl x), l2, l3, l4] (.inl x :: S) σ := je_iload (show jm_fe 52 0 = some (jk_iload 1 1) from rfl) rfl
theorem r_M_jump_1 : je X 52 1 L S σ = je X 52 3 L (.inl 18 :: S) σ := je_const (show jm_fe 52 1 = some (jk_const (18) 2) from rfl)
theorem r_M_jump_3 : je X 52 3 L (.inl q :: .inl p :: S) σ = if p = q then je X 52 6 L S σ else je X 52 10 L S σ := je_icmp_ne (show jm_fe 52 3 = some (jk_icmp .ne 10) from rfl)
theorem r_M_jump_6 : je X 52 6 L S σ = je X 52 7 L (.inl 0 :: S) σ := je_const (show jm_fe 52 6 = some (jk_const 0 1) from rfl)
theorem r_M_jump_7 : je X 52 7 L S σ = je X 52 20 L S σ := je_goto (show jm_fe 52 7 = some (jk_goto 20) from rfl)
theorem r_M_jump_10 : je X 52 10 [some (.inr r), l1, l2, l3, l4] S σ = je X 52 11 [some (.inr r), l1, l2, l3, l4] (.inr r :: S) σ := je_aload (show jm_fe 52 10 = some (jk_aload 0 1) from rfl) rfl
theorem r_M_jump_11 : je X 52 11 L (.inr (.inl (some a)) :: S) σ = je_v X 52 14 L S σ (jm_gf σ.1 a 9 26) := je_getf (show jm_fe 52 11 = some (jk_getf 9 26) from rfl)
theorem r_M_jump_14 : je X 52 14 [some (.inr r), l1, l2, l3, l4] S σ = je X 52 15 [some (.inr r), l1, l2, l3, l4] (.inr r :: S) σ := je_aload (show jm_fe 52 14 = some (jk_aload 0 1) from rfl) rfl
theorem r_M_jump_15 : je X 52 15 L S σ = je X 52 16 L (.inl 0 :: S) σ := je_const (show jm_fe 52 15 = some (jk_const 0 1) from rfl)
theorem r_M_jump_16 (hc : jm_cl σ.1 a = some 9) (h8 : S.length ≤ 8) : je X 52 16 L (v0 :: .inr (.inl (some a)) :: S) σ = je_c X 52 19 L S (je X 35 0 [some (.inr (.inl (some a))), some v0] [] σ) := je_callV (as := [v0]) (S' := S) (show jm_fe 52 16 = some (jk_callV 35 1 9) from rfl) rfl hc h8
theorem r_M_jump_19 : je X 52 19 L (.inl p :: .inr (.inl (some a)) :: S) σ = je_i X 52 20 L S σ (jm_al σ.1 a 0 p) := je_ald (show jm_fe 52 19 = some (jk_ald 0) from rfl)
theorem r_M_jump_20 : je X 52 20 [l0, l1, l2, l3, l4] (.inl x :: S) σ = je X 52 21 [l0, l1, l2, some (.inl x), l4] S σ := je_istore (show jm_fe 52 20 = some (jk_istore 3 1) from rfl) (Nat.le_of_ble_eq_true rfl)
theorem r_M_jump_21 : je X 52 21 [some (.inr r), l1, l2, l3, l4] S σ = je X 52 22 [some (.inr r), l1, l2, l3, l4] (.inr r :: S) σ := je_aload (show jm_fe 52 21 = some (jk_aload 0 1) from rfl) rfl
theorem r_M_jump_22 : je X 52 22 [l0, some (.inl x), l2, l3, l4] S σ = je X 52 23 [l0, some (.inl x), l2, l3, l4] (.inl x :: S) σ := je_iload (show jm_fe 52 22 = some (jk_iload 1 1) from rfl) rfl
theorem r_M_jump_23 : je X 52 23 L S σ = je X 52 25 L (.inl 18 :: S) σ := je_const (show jm_fe 52 23 = some (jk_const (18) 2) from rfl)
theorem r_M_jump_25 : je X 52 25 L (.inl q :: .inl p :: S) σ = if p = q then je X 52 28 L S σ else je X 52 32 L S σ := je_icmp_ne (show jm_fe 52 25 = some (jk_icmp .ne 32) from rfl)
theorem r_M_jump_28 : je X 52 28 L S σ = je X 52 29 L (.inl 0 :: S) σ := je_const (show jm_fe 52 28 = some (jk_const 0 1) from rfl)
theorem r_M_jump_29 : je X 52 29 L S σ = je X 52 33 L S σ := je_goto (show jm_fe 52 29 = some (jk_goto 33) from rfl)
theorem r_M_jump_32 : je X 52 32 L S σ = je X 52 33 L (.inl 1 :: S) σ := je_const (show jm_fe 52 32 = some (jk_const 1 1) from rfl)
theorem r_M_jump_33 (hc : jm_cl σ.1 a = some 9) (h8 : S.length ≤ 8) : je X 52 33 L (v0 :: .inr (.inl (some a)) :: S) σ = je_c X 52 36 L S (je X 36 0 [some (.inr (.inl (some a))), some v0] [] σ) := je_callV (as := [v0]) (S' := S) (show jm_fe 52 33 = some (jk_callV 36 1 9) from rfl) rfl hc h8
theorem r_M_jump_36 : je X 52 36 [l0, some (.inl x), l2, l3, l4] S σ = je X 52 37 [l0, some (.inl x), l2, l3, l4] (.inl x :: S) σ := je_iload (show jm_fe 52 36 = some (jk_iload 1 1) from rfl) rfl
theorem r_M_jump_37 : je X 52 37 L S σ = je X 52 39 L (.inl 18 :: S) σ := je_const (show jm_fe 52 37 = some (jk_const (18) 2) from rfl)
theorem r_M_jump_39 : je X 52 39 L (.inl q :: .inl p :: S) σ = if p = q then je X 52 62 L S σ else je X 52 42 L S σ := je_icmp_eq (show jm_fe 52 39 = some (jk_icmp .eq 62) from rfl)
theorem r_M_jump_42 : je X 52 42 [l0, some (.inl x), l2, l3, l4] S σ = je X 52 43 [l0, some (.inl x), l2, l3, l4] (.inl x :: S) σ := je_iload (show jm_fe 52 42 = some (jk_iload 1 1) from rfl) rfl
theorem r_M_jump_43 : je X 52 43 L S σ = je X 52 45 L (.inl 19 :: S) σ := je_const (show jm_fe 52 43 = some (jk_const (19) 2) from rfl)
theorem r_M_jump_45 : je X 52 45 L (.inl q :: .inl p :: S) σ = if p = q then je X 52 48 L S σ else je X 52 52 L S σ := je_icmp_ne (show jm_fe 52 45 = some (jk_icmp .ne 52) from rfl)
theorem r_M_jump_48 : je X 52 48 [l0, l1, l2, some (.inl x), l4] S σ = je X 52 49 [l0, l1, l2, some (.inl x), l4] (.inl x :: S) σ := je_iload (show jm_fe 52 48 = some (jk_iload 3 1) from rfl) rfl
theorem r_M_jump_49 : je X 52 49 L (.inl p :: S) σ = if p = 0 then je X 52 52 L S σ else je X 52 62 L S σ := je_if_ne (show jm_fe 52 49 = some (jk_if .ne 62) from rfl)
theorem r_M_jump_52 : je X 52 52 [l0, some (.inl x), l2, l3, l4] S σ = je X 52 53 [l0, some (.inl x), l2, l3, l4] (.inl x :: S) σ := je_iload (show jm_fe 52 52 = some (jk_iload 1 1) from rfl) rfl
theorem r_M_jump_53 : je X 52 53 L S σ = je X 52 55 L (.inl 20 :: S) σ := je_const (show jm_fe 52 53 = some (jk_const (20) 2) from rfl)
theorem r_M_jump_55 : je X 52 55 L (.inl q :: .inl p :: S) σ = if p = q then je X 52 58 L S σ else je X 52 66 L S σ := je_icmp_ne (show jm_fe 52 55 = some (jk_icmp .ne 66) from rfl)
theorem r_M_jump_58 : je X 52 58 [l0, l1, l2, some (.inl x), l4] S σ = je X 52 59 [l0, l1, l2, some (.inl x), l4] (.inl x :: S) σ := je_iload (show jm_fe 52 58 = some (jk_iload 3 1) from rfl) rfl
theorem r_M_jump_59 : je X 52 59 L (.inl p :: S) σ = if p = 0 then je X 52 62 L S σ else je X 52 66 L S σ := je_if_ne (show jm_fe 52 59 = some (jk_if .ne 66) from rfl)
theorem r_M_jump_62 : je X 52 62 L S σ = je X 52 63 L (.inl 1 :: S) σ := je_const (show jm_fe 52 62 = some (jk_const 1 1) from rfl)
theorem r_M_jump_63 : je X 52 63 L S σ = je X 52 67 L S σ := je_goto (show jm_fe 52 63 = some (jk_goto 67) from rfl)
theorem r_M_jump_66 : je X 52 66 L S σ = je X 52 67 L (.inl 0 :: S) σ := je_const (show jm_fe 52 66 = some (jk_const 0 1) from rfl)
theorem r_M_jump_67 : je X 52 67 [l0, l1, l2, l3, l4] (.inl x :: S) σ = je X 52 69 [l0, l1, l2, l3, some (.inl x)] S σ := je_istore (show jm_fe 52 67 = some (jk_istore 4 2) from rfl) (Nat.le_of_ble_eq_true rfl)
theorem r_M_jump_69 : je X 52 69 [some (.inr r), l1, l2, l3, l4] S σ = je X 52 70 [some (.inr r), l1, l2, l3, l4] (.inr r :: S) σ := je_aload (show jm_fe 52 69 = some (jk_aload 0 1) from rfl) rfl
theorem r_M_jump_70 : je X 52 70 L (.inr (.inl (some a)) :: S) σ = je_v X 52 73 L S σ (jm_gf σ.1 a 9 24) := je_getf (show jm_fe 52 70 = some (jk_getf 9 24) from rfl)
theorem r_M_jump_73 : je X 52 73 [some (.inr r), l1, l2, l3, l4] S σ = je X 52 74 [some (.inr r), l1, l2, l3, l4] (.inr r :: S) σ := je_aload (show jm_fe 52 73 = some (jk_aload 0 1) from rfl) rfl
theorem r_M_jump_74 : je X 52 74 L (.inr (.inl (some a)) :: S) σ = je_v X 52 77 L S σ (jm_gf σ.1 a 9 22) := je_getf (show jm_fe 52 74 = some (jk_getf 9 22) from rfl)
theorem r_M_jump_77 : je X 52 77 L S σ = je X 52 78 L (.inl 1 :: S) σ := je_const (show jm_fe 52 77 = some (jk_const 1 1) from rfl)
theorem r_M_jump_78 : je X 52 78 L (.inl q :: .inl p :: S) σ = je X 52 79 L (.inl (p - q) :: S) σ := je_bin (show jm_fe 52 78 = some (jb_isub) from rfl)
theorem r_M_jump_79 : je X 52 79 [l0, l1, l2, l3, some (.inl x)] S σ = je X 52 81 [l0, l1, l2, l3, some (.inl x)] (.inl x :: S) σ := je_iload (show jm_fe 52 79 = some (jk_iload 4 2) from rfl) rfl
theorem r_M_jump_81 : je X 52 81 L (.inl p :: S) σ = if p = 0 then je X 52 88 L S σ else je X 52 84 L S σ := je_if_eq (show jm_fe 52 81 = some (jk_if .eq 88) from rfl)
theorem r_M_jump_84 : je X 52 84 [l0, l1, some (.inl x), l3, l4] S σ = je X 52 85 [l0, l1, some (.inl x), l3, l4] (.inl x :: S) σ := je_iload (show jm_fe 52 84 = some (jk_iload 2 1) from rfl) rfl
theorem r_M_jump_85 : je X 52 85 L S σ = je X 52 101 L S σ := je_goto (show jm_fe 52 85 = some (jk_goto 101) from rfl)
theorem r_M_jump_88 : je X 52 88 [some (.inr r), l1, l2, l3, l4] S σ = je X 52 89 [some (.inr r), l1, l2, l3, l4] (.inr r :: S) σ := je_aload (show jm_fe 52 88 = some (jk_aload 0 1) from rfl) rfl
theorem r_M_jump_89 : je X 52 89 L (.inr (.inl (some a)) :: S) σ = je_v X 52 92 L S σ (jm_gf σ.1 a 9 24) := je_getf (show jm_fe 52 89 = some (jk_getf 9 24) from rfl)
theorem r_M_jump_92 : je X 52 92 [some (.inr r), l1, l2, l3, l4] S σ = je X 52 93 [some (.inr r), l1, l2, l3, l4] (.inr r :: S) σ := je_aload (show jm_fe 52 92 = some (jk_aload 0 1) from rfl) rfl
theorem r_M_jump_93 : je X 52 93 L (.inr (.inl (some a)) :: S) σ = je_v X 52 96 L S σ (jm_gf σ.1 a 9 22) := je_getf (show jm_fe 52 93 = some (jk_getf 9 22) from rfl)
theorem r_M_jump_96 : je X 52 96 L S σ = je X 52 97 L (.inl 1 :: S) σ := je_const (show jm_fe 52 96 = some (jk_const 1 1) from rfl)
theorem r_M_jump_97 : je X 52 97 L (.inl q :: .inl p :: S) σ = je X 52 98 L (.inl (p - q) :: S) σ := je_bin (show jm_fe 52 97 = some (jb_isub) from rfl)
theorem r_M_jump_98 : je X 52 98 L (.inl p :: .inr (.inl (some a)) :: S) σ = je_i X 52 99 L S σ (jm_al σ.1 a 0 p) := je_ald (show jm_fe 52 98 = some (jk_ald 0) from rfl)
theorem r_M_jump_99 : je X 52 99 L S σ = je X 52 100 L (.inl 1 :: S) σ := je_const (show jm_fe 52 99 = some (jk_const 1 1) from rfl)
theorem r_M_jump_100 : je X 52 100 L (.inl q :: .inl p :: S) σ = je X 52 101 L (.inl (p + q) :: S) σ := je_bin (show jm_fe 52 100 = some (jb_iadd) from rfl)
theorem r_M_jump_101 : je X 52 101 L (.inl q :: .inl p :: .inr (.inl (some a)) :: S) σ = je_h X 52 102 L S σ.2 (jm_as σ.1 a 0 p q) := je_iast (show jm_fe 52 101 = some (jk_iast) from rfl)
theorem r_M_jump_102 : je X 52 102 L [] σ = some (none, σ) := je_ret (show jm_fe 52 102 = some (jk_ret) from rfl)
theorem r_M_step_0 : je X 53 0 [some (.inr r), l1, l2, l3, l4, l5] S σ = je X 53 1 [some (.inr r), l1, l2, l3, l4, l5] (.inr r :: S) σ := je_aload (show jm_fe 53 0 = some (jk_aload 0 1) from rfl) rfl
theorem r_M_step_1 : je X 53 1 L (.inr (.inl (some a)) :: S) σ = je_v X 53 4 L S σ (jm_gf σ.1 a 9 23) := je_getf (show jm_fe 53 1 = some (jk_getf 9 23) from rfl)
theorem r_M_step_4 : je X 53 4 [some (.inr r), l1, l2, l3, l4, l5] S σ = je X 53 5 [some (.inr r), l1, l2, l3, l4, l5] (.inr r :: S) σ := je_aload (show jm_fe 53 4 = some (jk_aload 0 1) from rfl) rfl
theorem r_M_step_5 : je X 53 5 L (.inr (.inl (some a)) :: S) σ = je_v X 53 8 L S σ (jm_gf σ.1 a 9 22) := je_getf (show jm_fe 53 5 = some (jk_getf 9 22) from rfl)
theorem r_M_step_8 : je X 53 8 L S σ = je X 53 9 L (.inl 1 :: S) σ := je_const (show jm_fe 53 8 = some (jk_const 1 1) from rfl)
theorem r_M_step_9 : je X 53 9 L (.inl q :: .inl p :: S) σ = je X 53 10 L (.inl (p - q) :: S) σ := je_bin (show jm_fe 53 9 = some (jb_isub) from rfl)
theorem r_M_step_10 : je X 53 10 L (.inl p :: .inr (.inl (some a)) :: S) σ = je_i X 53 11 L S σ (jm_al σ.1 a 0 p) := je_ald (show jm_fe 53 10 = some (jk_ald 0) from rfl)
theorem r_M_step_11 : je X 53 11 [l0, l1, l2, l3, l4, l5] (.inl x :: S) σ = je X 53 12 [l0, some (.inl x), l2, l3, l4, l5] S σ := je_istore (show jm_fe 53 11 = some (jk_istore 1 1) from rfl) (Nat.le_of_ble_eq_true rfl)
theorem r_M_step_12 : je X 53 12 [some (.inr r), l1, l2, l3, l4, l5] S σ = je X 53 13 [some (.inr r), l1, l2, l3, l4, l5] (.inr r :: S) σ := je_aload (show jm_fe 53 12 = some (jk_aload 0 1) from rfl) rfl
theorem r_M_step_13 : je X 53 13 L (.inr (.inl (some a)) :: S) σ = je_v X 53 16 L S σ (jm_gf σ.1 a 9 24) := je_getf (show jm_fe 53 13 = some (jk_getf 9 24) from rfl)
theorem r_M_step_16 : je X 53 16 [some (.inr r), l1, l2, l3, l4, l5] S σ = je X 53 17 [some (.inr r), l1, l2, l3, l4, l5] (.inr r :: S) σ := je_aload (show jm_fe 53 16 = some (jk_aload 0 1) from rfl) rfl
theorem r_M_step_17 : je X 53 17 L (.inr (.inl (some a)) :: S) σ = je_v X 53 20 L S σ (jm_gf σ.1 a 9 22) := je_getf (show jm_fe 53 17 = some (jk_getf 9 22) from rfl)
theorem r_M_step_20 : je X 53 20 L S σ = je X 53 21 L (.inl 1 :: S) σ := je_const (show jm_fe 53 20 = some (jk_const 1 1) from rfl)
theorem r_M_step_21 : je X 53 21 L (.inl q :: .inl p :: S) σ = je X 53 22 L (.inl (p - q) :: S) σ := je_bin (show jm_fe 53 21 = some (jb_isub) from rfl)
theorem r_M_step_22 : je X 53 22 L (.inl p :: .inr (.inl (some a)) :: S) σ = je_i X 53 23 L S σ (jm_al σ.1 a 0 p) := je_ald (show jm_fe 53 22 = some (jk_ald 0) from rfl)
theorem r_M_step_23 : je X 53 23 [l0, l1, l2, l3, l4, l5] (.inl x :: S) σ = je X 53 24 [l0, l1, some (.inl x), l3, l4, l5] S σ := je_istore (show jm_fe 53 23 = some (jk_istore 2 1) from rfl) (Nat.le_of_ble_eq_true rfl)
theorem r_M_step_24 : je X 53 24 [some (.inr r), l1, l2, l3, l4, l5] S σ = je X 53 25 [some (.inr r), l1, l2, l3, l4, l5] (.inr r :: S) σ := je_aload (show jm_fe 53 24 = some (jk_aload 0 1) from rfl) rfl
theorem r_M_step_25 : je X 53 25 [l0, some (.inl x), l2, l3, l4, l5] S σ = je X 53 26 [l0, some (.inl x), l2, l3, l4, l5] (.inl x :: S) σ := je_iload (show jm_fe 53 25 = some (jk_iload 1 1) from rfl) rfl
theorem r_M_step_26 (hc : jm_cl σ.1 a = some 9) (h8 : S.length ≤ 8) : je X 53 26 L (v0 :: .inr (.inl (some a)) :: S) σ = je_c X 53 29 L S (je X 20 0 [some (.inr (.inl (some a))), some v0] [] σ) := je_callV (as := [v0]) (S' := S) (show jm_fe 53 26 = some (jk_callV 20 1 9) from rfl) rfl hc h8
theorem r_M_step_29 : je X 53 29 L (.inl p :: S) σ = if p = 0 then je X 53 87 L S σ else je X 53 32 L S σ := je_if_eq (show jm_fe 53 29 = some (jk_if .eq 87) from rfl)
theorem r_M_step_32 : je X 53 32 [l0, l1, some (.inl x), l3, l4, l5] S σ = je X 53 33 [l0, l1, some (.inl x), l3, l4, l5] (.inl x :: S) σ := je_iload (show jm_fe 53 32 = some (jk_iload 2 1) from rfl) rfl
theorem r_M_step_33 : je X 53 33 L (.inl p :: S) σ = if p < 0 then je X 53 87 L S σ else je X 53 36 L S σ := je_if_lt (show jm_fe 53 33 = some (jk_if .lt 87) from rfl)
theorem r_M_step_36 : je X 53 36 [l0, l1, some (.inl x), l3, l4, l5] S σ = je X 53 37 [l0, l1, some (.inl x), l3, l4, l5] (.inl x :: S) σ := je_iload (show jm_fe 53 36 = some (jk_iload 2 1) from rfl) rfl
theorem r_M_step_37 : je X 53 37 [some (.inr r), l1, l2, l3, l4, l5] S σ = je X 53 38 [some (.inr r), l1, l2, l3, l4, l5] (.inr r :: S) σ := je_aload (show jm_fe 53 37 = some (jk_aload 0 1) from rfl) rfl
theorem r_M_step_38 : je X 53 38 L (.inr (.inl (some a)) :: S) σ = je_v X 53 41 L S σ (jm_gf σ.1 a 9 5) := je_getf (show jm_fe 53 38 = some (jk_getf 9 5) from rfl)
theorem r_M_step_41 : je X 53 41 [some (.inr r), l1, l2, l3, l4, l5] S σ = je X 53 42 [some (.inr r), l1, l2, l3, l4, l5] (.inr r :: S) σ := je_aload (show jm_fe 53 41 = some (jk_aload 0 1) from rfl) rfl
theorem r_M_step_42 : je X 53 42 [l0, some (.inl x), l2, l3, l4, l5] S σ = je X 53 43 [l0, some (.inl x), l2, l3, l4, l5] (.inl x :: S) σ := je_iload (show jm_fe 53 42 = some (jk_iload 1 1) from rfl) rfl
theorem r_M_step_43 (hc : jm_cl σ.1 a = some 9) (h8 : S.length ≤ 8) : je X 53 43 L (v0 :: .inr (.inl (some a)) :: S) σ = je_c X 53 46 L S (je X 20 0 [some (.inr (.inl (some a))), some v0] [] σ) := je_callV (as := [v0]) (S' := S) (show jm_fe 53 43 = some (jk_callV 20 1 9) from rfl) rfl hc h8
theorem r_M_step_46 : je X 53 46 L (.inl p :: S) σ = if p = 0 then je X 53 53 L S σ else je X 53 49 L S σ := je_if_eq (show jm_fe 53 46 = some (jk_if .eq 53) from rfl)
theorem r_M_step_49 : je X 53 49 [l0, some (.inl x), l2, l3, l4, l5] S σ = je X 53 50 [l0, some (.inl x), l2, l3, l4, l5] (.inl x :: S) σ := je_iload (show jm_fe 53 49 = some (jk_iload 1 1) from rfl) rfl
theorem r_M_step_50 : je X 53 50 L S σ = je X 53 54 L S σ := je_goto (show jm_fe 53 50 = some (jk_goto 54) from rfl)
theorem r_M_step_53 : je X 53 53 L S σ = je X 53 54 L (.inl 0 :: S) σ := je_const (show jm_fe 53 53 = some (jk_const 0 1) from rfl)
theorem r_M_step_54 : je X 53 54 L (.inl p :: .inr (.inl (some a)) :: S) σ = je_i X 53 55 L S σ (jm_al σ.1 a 0 p) := je_ald (show jm_fe 53 54 = some (jk_ald 0) from rfl)
theorem r_M_step_55 : je X 53 55 L (.inl q :: .inl p :: S) σ = if q ≤ p then je X 53 87 L S σ else je X 53 58 L S σ := je_icmp_ge (show jm_fe 53 55 = some (jk_icmp .ge 87) from rfl)
theorem r_M_step_58 : je X 53 58 [some (.inr r), l1, l2, l3, l4, l5] S σ = je X 53 59 [some (.inr r), l1, l2, l3, l4, l5] (.inr r :: S) σ := je_aload (show jm_fe 53 58 = some (jk_aload 0 1) from rfl) rfl
theorem r_M_step_59 : je X 53 59 [some (.inr r), l1, l2, l3, l4, l5] S σ = je X 53 60 [some (.inr r), l1, l2, l3, l4, l5] (.inr r :: S) σ := je_aload (show jm_fe 53 59 = some (jk_aload 0 1) from rfl) rfl
theorem r_M_step_60 : je X 53 60 L (.inr (.inl (some a)) :: S) σ = je_v X 53 63 L S σ (jm_gf σ.1 a 9 6) := je_getf (show jm_fe 53 60 = some (jk_getf 9 6) from rfl)
theorem r_M_step_63 : je X 53 63 L S σ = je X 53 65 L (.inl 100 :: S) σ := je_const (show jm_fe 53 63 = some (jk_const (100) 2) from rfl)
theorem r_M_step_65 : je X 53 65 [l0, some (.inl x), l2, l3, l4, l5] S σ = je X 53 66 [l0, some (.inl x), l2, l3, l4, l5] (.inl x :: S) σ := je_iload (show jm_fe 53 65 = some (jk_iload 1 1) from rfl) rfl
theorem r_M_step_66 : je X 53 66 L (.inl q :: .inl p :: S) σ = je X 53 67 L (.inl (p * q) :: S) σ := je_bin (show jm_fe 53 66 = some (jb_imul) from rfl)
theorem r_M_step_67 : je X 53 67 [l0, l1, some (.inl x), l3, l4, l5] S σ = je X 53 68 [l0, l1, some (.inl x), l3, l4, l5] (.inl x :: S) σ := je_iload (show jm_fe 53 67 = some (jk_iload 2 1) from rfl) rfl
theorem r_M_step_68 : je X 53 68 L (.inl q :: .inl p :: S) σ = je X 53 69 L (.inl (p + q) :: S) σ := je_bin (show jm_fe 53 68 = some (jb_iadd) from rfl)
theorem r_M_step_69 : je X 53 69 L (.inl p :: .inr (.inl (some a)) :: S) σ = je_i X 53 70 L S σ (jm_al σ.1 a 0 p) := je_ald (show jm_fe 53 69 = some (jk_ald 0) from rfl)
theorem r_M_step_70 : je X 53 70 [some (.inr r), l1, l2, l3, l4, l5] S σ = je X 53 71 [some (.inr r), l1, l2, l3, l4, l5] (.inr r :: S) σ := je_aload (show jm_fe 53 70 = some (jk_aload 0 1) from rfl) rfl
theorem r_M_step_71 : je X 53 71 L (.inr (.inl (some a)) :: S) σ = je_v X 53 74 L S σ (jm_gf σ.1 a 9 7) := je_getf (show jm_fe 53 71 = some (jk_getf 9 7) from rfl)
theorem r_M_step_74 : je X 53 74 L S σ = je X 53 76 L (.inl 100 :: S) σ := je_const (show jm_fe 53 74 = some (jk_const (100) 2) from rfl)
theorem r_M_step_76 : je X 53 76 [l0, some (.inl x), l2, l3, l4, l5] S σ = je X 53 77 [l0, some (.inl x), l2, l3, l4, l5] (.inl x :: S) σ := je_iload (show jm_fe 53 76 = some (jk_iload 1 1) from rfl) rfl
theorem r_M_step_77 : je X 53 77 L (.inl q :: .inl p :: S) σ = je X 53 78 L (.inl (p * q) :: S) σ := je_bin (show jm_fe 53 77 = some (jb_imul) from rfl)
theorem r_M_step_78 : je X 53 78 [l0, l1, some (.inl x), l3, l4, l5] S σ = je X 53 79 [l0, l1, some (.inl x), l3, l4, l5] (.inl x :: S) σ := je_iload (show jm_fe 53 78 = some (jk_iload 2 1) from rfl) rfl
theorem r_M_step_79 : je X 53 79 L (.inl q :: .inl p :: S) σ = je X 53 80 L (.inl (p + q) :: S) σ := je_bin (show jm_fe 53 79 = some (jb_iadd) from rfl)
theorem r_M_step_80 : je X 53 80 L (.inl p :: .inr (.inl (some a)) :: S) σ = je_i X 53 81 L S σ (jm_al σ.1 a 0 p) := je_ald (show jm_fe 53 80 = some (jk_ald 0) from rfl)
theorem r_M_step_81 (hc : jm_cl σ.1 a = some 9) (h8 : S.length ≤ 8) : je X 53 81 L (v1 :: v0 :: .inr (.inl (some a)) :: S) σ = je_c X 53 84 L S (je X 41 0 [some (.inr (.inl (some a))), some v0, some v1, none] [] σ) := je_callV (as := [v0, v1]) (S' := S) (show jm_fe 53 81 = some (jk_callV 41 2 9) from rfl) rfl hc h8
theorem r_M_step_84 : je X 53 84 L (.inl p :: S) σ = if p = 0 then je X 53 87 L S σ else je X 53 94 L S σ := je_if_ne (show jm_fe 53 84 = some (jk_if .ne 94) from rfl)
theorem r_M_step_87 : je X 53 87 [some (.inr r), l1, l2, l3, l4, l5] S σ = je X 53 88 [some (.inr r), l1, l2, l3, l4, l5] (.inr r :: S) σ := je_aload (show jm_fe 53 87 = some (jk_aload 0 1) from rfl) rfl
theorem r_M_step_88 : je X 53 88 L S σ = je X 53 89 L (.inl 2 :: S) σ := je_const (show jm_fe 53 88 = some (jk_const 2 1) from rfl)
theorem r_M_step_89 : je X 53 89 L S σ = je X 53 90 L (.inl 0 :: S) σ := je_const (show jm_fe 53 89 = some (jk_const 0 1) from rfl)
theorem r_M_step_90 (hc : jm_cl σ.1 a = some 9) (h8 : S.length ≤ 8) : je X 53 90 L (v1 :: v0 :: .inr (.inl (some a)) :: S) σ = je_c X 53 93 L S (je X 33 0 [some (.inr (.inl (some a))), some v0, some v1] [] σ) := je_callV (as := [v0, v1]) (S' := S) (show jm_fe 53 90 = some (jk_callV 33 2 9) from rfl) rfl hc h8
theorem r_M_step_93 : je X 53 93 L [] σ = some (none, σ) := je_ret (show jm_fe 53 93 = some (jk_ret) from rfl)
theorem r_M_step_94 : je X 53 94 [some (.inr r), l1, l2, l3, l4, l5] S σ = je X 53 95 [some (.inr r), l1, l2, l3, l4, l5] (.inr r :: S) σ := je_aload (show jm_fe 53 94 = some (jk_aload 0 1) from rfl) rfl
theorem r_M_step_95 : je X 53 95 L (.inr (.inl (some a)) :: S) σ = je_v X 53 98 L S σ (jm_gf σ.1 a 9 6) := je_getf (show jm_fe 53 95 = some (jk_getf 9 6) from rfl)
theorem r_M_step_98 : je X 53 98 L S σ = je X 53 100 L (.inl 100 :: S) σ := je_const (show jm_fe 53 98 = some (jk_const (100) 2) from rfl)
theorem r_M_step_100 : je X 53 100 [l0, some (.inl x), l2, l3, l4, l5] S σ = je X 53 101 [l0, some (.inl x), l2, l3, l4, l5] (.inl x :: S) σ := je_iload (show jm_fe 53 100 = some (jk_iload 1 1) from rfl) rfl
theorem r_M_step_101 : je X 53 101 L (.inl q :: .inl p :: S) σ = je X 53 102 L (.inl (p * q) :: S) σ := je_bin (show jm_fe 53 101 = some (jb_imul) from rfl)
theorem r_M_step_102 : je X 53 102 [l0, l1, some (.inl x), l3, l4, l5] S σ = je X 53 103 [l0, l1, some (.inl x), l3, l4, l5] (.inl x :: S) σ := je_iload (show jm_fe 53 102 = some (jk_iload 2 1) from rfl) rfl
theorem r_M_step_103 : je X 53 103 L (.inl q :: .inl p :: S) σ = je X 53 104 L (.inl (p + q) :: S) σ := je_bin (show jm_fe 53 103 = some (jb_iadd) from rfl)
theorem r_M_step_104 : je X 53 104 L (.inl p :: .inr (.inl (some a)) :: S) σ = je_i X 53 105 L S σ (jm_al σ.1 a 0 p) := je_ald (show jm_fe 53 104 = some (jk_ald 0) from rfl)
theorem r_M_step_105 : je X 53 105 [l0, l1, l2, l3, l4, l5] (.inl x :: S) σ = je X 53 106 [l0, l1, l2, some (.inl x), l4, l5] S σ := je_istore (show jm_fe 53 105 = some (jk_istore 3 1) from rfl) (Nat.le_of_ble_eq_true rfl)
theorem r_M_step_106 : je X 53 106 [some (.inr r), l1, l2, l3, l4, l5] S σ = je X 53 107 [some (.inr r), l1, l2, l3, l4, l5] (.inr r :: S) σ := je_aload (show jm_fe 53 106 = some (jk_aload 0 1) from rfl) rfl
theorem r_M_step_107 : je X 53 107 L (.inr (.inl (some a)) :: S) σ = je_v X 53 110 L S σ (jm_gf σ.1 a 9 7) := je_getf (show jm_fe 53 107 = some (jk_getf 9 7) from rfl)
theorem r_M_step_110 : je X 53 110 L S σ = je X 53 112 L (.inl 100 :: S) σ := je_const (show jm_fe 53 110 = some (jk_const (100) 2) from rfl)
theorem r_M_step_112 : je X 53 112 [l0, some (.inl x), l2, l3, l4, l5] S σ = je X 53 113 [l0, some (.inl x), l2, l3, l4, l5] (.inl x :: S) σ := je_iload (show jm_fe 53 112 = some (jk_iload 1 1) from rfl) rfl
theorem r_M_step_113 : je X 53 113 L (.inl q :: .inl p :: S) σ = je X 53 114 L (.inl (p * q) :: S) σ := je_bin (show jm_fe 53 113 = some (jb_imul) from rfl)
theorem r_M_step_114 : je X 53 114 [l0, l1, some (.inl x), l3, l4, l5] S σ = je X 53 115 [l0, l1, some (.inl x), l3, l4, l5] (.inl x :: S) σ := je_iload (show jm_fe 53 114 = some (jk_iload 2 1) from rfl) rfl
theorem r_M_step_115 : je X 53 115 L (.inl q :: .inl p :: S) σ = je X 53 116 L (.inl (p + q) :: S) σ := je_bin (show jm_fe 53 115 = some (jb_iadd) from rfl)
theorem r_M_step_116 : je X 53 116 L (.inl p :: .inr (.inl (some a)) :: S) σ = je_i X 53 117 L S σ (jm_al σ.1 a 0 p) := je_ald (show jm_fe 53 116 = some (jk_ald 0) from rfl)
theorem r_M_step_117 : je X 53 117 [l0, l1, l2, l3, l4, l5] (.inl x :: S) σ = je X 53 119 [l0, l1, l2, l3, some (.inl x), l5] S σ := je_istore (show jm_fe 53 117 = some (jk_istore 4 2) from rfl) (Nat.le_of_ble_eq_true rfl)
theorem r_M_step_119 : je X 53 119 [l0, l1, l2, some (.inl x), l4, l5] S σ = je X 53 120 [l0, l1, l2, some (.inl x), l4, l5] (.inl x :: S) σ := je_iload (show jm_fe 53 119 = some (jk_iload 3 1) from rfl) rfl
theorem r_M_step_120 : je X 53 120 L S σ = je X 53 122 L (.inl 6 :: S) σ := je_const (show jm_fe 53 120 = some (jk_const (6) 2) from rfl)
set_option maxRecDepth 20000 in
theorem r_M_step_122 : je X 53 122 L (.inl q :: .inl p :: S) σ = if q ≤ p then je X 53 135 L S σ else je X 53 125 L S σ := je_icmp_ge (show jm_fe 53 122 = some (jk_icmp .ge 135) from rfl)
set_option maxRecDepth 20000 in
theorem r_M_step_125 : je X 53 125 [some (.inr r), l1, l2, l3, l4, l5] S σ = je X 53 126 [some (.inr r), l1, l2, l3, l4, l5] (.inr r :: S) σ := je_aload (show jm_fe 53 125 = some (jk_aload 0 1) from rfl) rfl
set_option maxRecDepth 20000 in
theorem r_M_step_126 : je X 53 126 [l0, l1, l2, some (.inl x), l4, l5] S σ = je X 53 127 [l0, l1, l2, some (.inl x), l4, l5] (.inl x :: S) σ := je_iload (show jm_fe 53 126 = some (jk_iload 3 1) from rfl) rfl
set_option maxRecDepth 20000 in
theorem r_M_step_127 : je X 53 127 [l0, l1, l2, l3, some (.inl x), l5] S σ = je X 53 129 [l0, l1, l2, l3, some (.inl x), l5] (.inl x :: S) σ := je_iload (show jm_fe 53 127 = some (jk_iload 4 2) from rfl) rfl
set_option maxRecDepth 20000 in
theorem r_M_step_129 (hc : jm_cl σ.1 a = some 9) (h8 : S.length ≤ 8) : je X 53 129 L (v1 :: v0 :: .inr (.inl (some a)) :: S) σ = je_c X 53 132 L S (je X 51 0 [some (.inr (.inl (some a))), some v0, some v1] [] σ) := je_callV (as := [v0, v1]) (S' := S) (show jm_fe 53 129 = some (jk_callV 51 2 9) from rfl) rfl hc h8
set_option maxRecDepth 20000 in
theorem r_M_step_132 : je X 53 132 L S σ = je X 53 301 L S σ := je_goto (show jm_fe 53 132 = some (jk_goto 301) from rfl)
set_option maxRecDepth 20000 in
theorem r_M_step_135 : je X 53 135 [l0, l1, l2, some (.inl x), l4, l5] S σ = je X 53 136 [l0, l1, l2, some (.inl x), l4, l5] (.inl x :: S) σ := je_iload (show jm_fe 53 135 = some (jk_iload 3 1) from rfl) rfl
set_option maxRecDepth 20000 in
theorem r_M_step_136 : je X 53 136 L S σ = je X 53 138 L (.inl 18 :: S) σ := je_const (show jm_fe 53 136 = some (jk_const (18) 2) from rfl)
set_option maxRecDepth 20000 in
theorem r_M_step_138 : je X 53 138 L (.inl q :: .inl p :: S) σ = if q ≤ p then je X 53 149 L S σ else je X 53 141 L S σ := je_icmp_ge (show jm_fe 53 138 = some (jk_icmp .ge 149) from rfl)
set_option maxRecDepth 20000 in
theorem r_M_step_141 : je X 53 141 [some (.inr r), l1, l2, l3, l4, l5] S σ = je X 53 142 [some (.inr r), l1, l2, l3, l4, l5] (.inr r :: S) σ := je_aload (show jm_fe 53 141 = some (jk_aload 0 1) from rfl) rfl
set_option maxRecDepth 20000 in
theorem r_M_step_142 : je X 53 142 [l0, l1, l2, some (.inl x), l4, l5] S σ = je X 53 143 [l0, l1, l2, some (.inl x), l4, l5] (.inl x :: S) σ := je_iload (show jm_fe 53 142 = some (jk_iload 3 1) from rfl) rfl
set_option maxRecDepth 20000 in
theorem r_M_step_143 (hc : jm_cl σ.1 a = some 9) (h8 : S.length ≤ 8) : je X 53 143 L (v0 :: .inr (.inl (some a)) :: S) σ = je_c X 53 146 L S (je X 43 0 [some (.inr (.inl (some a))), some v0, none, none] [] σ) := je_callV (as := [v0]) (S' := S) (show jm_fe 53 143 = some (jk_callV 43 1 9) from rfl) rfl hc h8
set_option maxRecDepth 20000 in
theorem r_M_step_146 : je X 53 146 L S σ = je X 53 301 L S σ := je_goto (show jm_fe 53 146 = some (jk_goto 301) from rfl)
set_option maxRecDepth 20000 in
theorem r_M_step_149 : je X 53 149 [l0, l1, l2, some (.inl x), l4, l5] S σ = je X 53 150 [l0, l1, l2, some (.inl x), l4, l5] (.inl x :: S) σ := je_iload (show jm_fe 53 149 = some (jk_iload 3 1) from rfl) rfl
set_option maxRecDepth 20000 in
theorem r_M_step_150 : je X 53 150 L S σ = je X 53 152 L (.inl 21 :: S) σ := je_const (show jm_fe 53 150 = some (jk_const (21) 2) from rfl)
set_option maxRecDepth 20000 in
theorem r_M_step_152 : je X 53 152 L (.inl q :: .inl p :: S) σ = if q ≤ p then je X 53 165 L S σ else je X 53 155 L S σ := je_icmp_ge (show jm_fe 53 152 = some (jk_icmp .ge 165) from rfl)
set_option maxRecDepth 20000 in
theorem r_M_step_155 : je X 53 155 [some (.inr r), l1, l2, l3, l4, l5] S σ = je X 53 156 [some (.inr r), l1, l2, l3, l4, l5] (.inr r :: S) σ := je_aload (show jm_fe 53 155 = some (jk_aload 0 1) from rfl) rfl
set_option maxRecDepth 20000 in
theorem r_M_step_156 : je X 53 156 [l0, l1, l2, some (.inl x), l4, l5] S σ = je X 53 157 [l0, l1, l2, some (.inl x), l4, l5] (.inl x :: S) σ := je_iload (show jm_fe 53 156 = some (jk_iload 3 1) from rfl) rfl
set_option maxRecDepth 20000 in
theorem r_M_step_157 : je X 53 157 [l0, l1, l2, l3, some (.inl x), l5] S σ = je X 53 159 [l0, l1, l2, l3, some (.inl x), l5] (.inl x :: S) σ := je_iload (show jm_fe 53 157 = some (jk_iload 4 2) from rfl) rfl
set_option maxRecDepth 20000 in
theorem r_M_step_159 (hc : jm_cl σ.1 a = some 9) (h8 : S.length ≤ 8) : je X 53 159 L (v1 :: v0 :: .inr (.inl (some a)) :: S) σ = je_c X 53 162 L S (je X 52 0 [some (.inr (.inl (some a))), some v0, some v1, none, none] [] σ) := je_callV (as := [v0, v1]) (S' := S) (show jm_fe 53 159 = some (jk_callV 52 2 9) from rfl) rfl hc h8
set_option maxRecDepth 20000 in
theorem r_M_step_162 : je X 53 162 L S σ = je X 53 301 L S σ := je_goto (show jm_fe 53 162 = some (jk_goto 301) from rfl)
set_option maxRecDepth 20000 in
theorem r_M_step_165 : je X 53 165 [l0, l1, l2, some (.inl x), l4, l5] S σ = je X 53 166 [l0, l1, l2, some (.inl x), l4, l5] (.inl x :: S) σ := je_iload (show jm_fe 53 165 = some (jk_iload 3 1) from rfl) rfl
set_option maxRecDepth 20000 in
theorem r_M_step_166 : je X 53 166 L S σ = je X 53 168 L (.inl 21 :: S) σ := je_const (show jm_fe 53 166 = some (jk_const (21) 2) from rfl)
set_option maxRecDepth 20000 in
theorem r_M_step_168 : je X 53 168 L (.inl q :: .inl p :: S) σ = if p = q then je X 53 171 L S σ else je X 53 178 L S σ := je_icmp_ne (show jm_fe 53 168 = some (jk_icmp .ne 178) from rfl)
set_option maxRecDepth 20000 in
theorem r_M_step_171 : je X 53 171 [some (.inr r), l1, l2, l3, l4, l5] S σ = je X 53 172 [some (.inr r), l1, l2, l3, l4, l5] (.inr r :: S) σ := je_aload (show jm_fe 53 171 = some (jk_aload 0 1) from rfl) rfl
set_option maxRecDepth 20000 in
theorem r_M_step_172 (hc : jm_cl σ.1 a = some 9) (h8 : S.length ≤ 8) : je X 53 172 L (.inr (.inl (some a)) :: S) σ = je_c X 53 175 L S (je X 44 0 [some (.inr (.inl (some a))), none, none] [] σ) := je_callV (as := []) (S' := S) (show jm_fe 53 172 = some (jk_callV 44 0 9) from rfl) rfl hc h8
set_option maxRecDepth 20000 in
theorem r_M_step_175 : je X 53 175 L S σ = je X 53 301 L S σ := je_goto (show jm_fe 53 175 = some (jk_goto 301) from rfl)
set_option maxRecDepth 20000 in
theorem r_M_step_178 : je X 53 178 [l0, l1, l2, some (.inl x), l4, l5] S σ = je X 53 179 [l0, l1, l2, some (.inl x), l4, l5] (.inl x :: S) σ := je_iload (show jm_fe 53 178 = some (jk_iload 3 1) from rfl) rfl
set_option maxRecDepth 20000 in
theorem r_M_step_179 : je X 53 179 L S σ = je X 53 181 L (.inl 24 :: S) σ := je_const (show jm_fe 53 179 = some (jk_const (24) 2) from rfl)
set_option maxRecDepth 20000 in
theorem r_M_step_181 : je X 53 181 L (.inl q :: .inl p :: S) σ = if q ≤ p then je X 53 202 L S σ else je X 53 184 L S σ := je_icmp_ge (show jm_fe 53 181 = some (jk_icmp .ge 202) from rfl)
set_option maxRecDepth 20000 in
theorem r_M_step_184 : je X 53 184 [some (.inr r), l1, l2, l3, l4, l5] S σ = je X 53 185 [some (.inr r), l1, l2, l3, l4, l5] (.inr r :: S) σ := je_aload (show jm_fe 53 184 = some (jk_aload 0 1) from rfl) rfl
set_option maxRecDepth 20000 in
theorem r_M_step_185 : je X 53 185 [l0, l1, l2, some (.inl x), l4, l5] S σ = je X 53 186 [l0, l1, l2, some (.inl x), l4, l5] (.inl x :: S) σ := je_iload (show jm_fe 53 185 = some (jk_iload 3 1) from rfl) rfl
set_option maxRecDepth 20000 in
theorem r_M_step_186 : je X 53 186 L S σ = je X 53 188 L (.inl 23 :: S) σ := je_const (show jm_fe 53 186 = some (jk_const (23) 2) from rfl)
set_option maxRecDepth 20000 in
theorem r_M_step_188 : je X 53 188 L (.inl q :: .inl p :: S) σ = if p = q then je X 53 191 L S σ else je X 53 195 L S σ := je_icmp_ne (show jm_fe 53 188 = some (jk_icmp .ne 195) from rfl)
set_option maxRecDepth 20000 in
theorem r_M_step_191 : je X 53 191 L S σ = je X 53 192 L (.inl 1 :: S) σ := je_const (show jm_fe 53 191 = some (jk_const 1 1) from rfl)
set_option maxRecDepth 20000 in
theorem r_M_step_192 : je X 53 192 L S σ = je X 53 196 L S σ := je_goto (show jm_fe 53 192 = some (jk_goto 196) from rfl)
set_option maxRecDepth 20000 in
theorem r_M_step_195 : je X 53 195 L S σ = je X 53 196 L (.inl 0 :: S) σ := je_const (show jm_fe 53 195 = some (jk_const 0 1) from rfl)
set_option maxRecDepth 20000 in
theorem r_M_step_196 (hc : jm_cl σ.1 a = some 9) (h8 : S.length ≤ 8) : je X 53 196 L (v0 :: .inr (.inl (some a)) :: S) σ = je_c X 53 199 L S (je X 45 0 [some (.inr (.inl (some a))), some v0, none, none] [] σ) := je_callV (as := [v0]) (S' := S) (show jm_fe 53 196 = some (jk_callV 45 1 9) from rfl) rfl hc h8
set_option maxRecDepth 20000 in
theorem r_M_step_199 : je X 53 199 L S σ = je X 53 301 L S σ := je_goto (show jm_fe 53 199 = some (jk_goto 301) from rfl)
set_option maxRecDepth 20000 in
theorem r_M_step_202 : je X 53 202 [l0, l1, l2, some (.inl x), l4, l5] S σ = je X 53 203 [l0, l1, l2, some (.inl x), l4, l5] (.inl x :: S) σ := je_iload (show jm_fe 53 202 = some (jk_iload 3 1) from rfl) rfl
set_option maxRecDepth 20000 in
theorem r_M_step_203 : je X 53 203 L S σ = je X 53 205 L (.inl 24 :: S) σ := je_const (show jm_fe 53 203 = some (jk_const (24) 2) from rfl)
set_option maxRecDepth 20000 in
theorem r_M_step_205 : je X 53 205 L (.inl q :: .inl p :: S) σ = if p = q then je X 53 208 L S σ else je X 53 244 L S σ := je_icmp_ne (show jm_fe 53 205 = some (jk_icmp .ne 244) from rfl)
set_option maxRecDepth 20000 in
theorem r_M_step_208 : je X 53 208 [some (.inr r), l1, l2, l3, l4, l5] S σ = je X 53 209 [some (.inr r), l1, l2, l3, l4, l5] (.inr r :: S) σ := je_aload (show jm_fe 53 208 = some (jk_aload 0 1) from rfl) rfl
set_option maxRecDepth 20000 in
theorem r_M_step_209 : je X 53 209 L (.inr (.inl (some a)) :: S) σ = je_v X 53 212 L S σ (jm_gf σ.1 a 9 33) := je_getf (show jm_fe 53 209 = some (jk_getf 9 33) from rfl)
set_option maxRecDepth 20000 in
theorem r_M_step_212 : je X 53 212 [some (.inr r), l1, l2, l3, l4, l5] S σ = je X 53 213 [some (.inr r), l1, l2, l3, l4, l5] (.inr r :: S) σ := je_aload (show jm_fe 53 212 = some (jk_aload 0 1) from rfl) rfl
set_option maxRecDepth 20000 in
theorem r_M_step_213 : je X 53 213 L (.inr (.inl (some a)) :: S) σ = je_v X 53 216 L S σ (jm_gf σ.1 a 9 27) := je_getf (show jm_fe 53 213 = some (jk_getf 9 27) from rfl)
set_option maxRecDepth 20000 in
theorem r_M_step_216 : je X 53 216 [some (.inr r), l1, l2, l3, l4, l5] S σ = je X 53 217 [some (.inr r), l1, l2, l3, l4, l5] (.inr r :: S) σ := je_aload (show jm_fe 53 216 = some (jk_aload 0 1) from rfl) rfl
set_option maxRecDepth 20000 in
theorem r_M_step_217 : je X 53 217 L S σ = je X 53 218 L (.inl 0 :: S) σ := je_const (show jm_fe 53 217 = some (jk_const 0 1) from rfl)
set_option maxRecDepth 20000 in
theorem r_M_step_218 (hc : jm_cl σ.1 a = some 9) (h8 : S.length ≤ 8) : je X 53 218 L (v0 :: .inr (.inl (some a)) :: S) σ = je_c X 53 221 L S (je X 35 0 [some (.inr (.inl (some a))), some v0] [] σ) := je_callV (as := [v0]) (S' := S) (show jm_fe 53 218 = some (jk_callV 35 1 9) from rfl) rfl hc h8
set_option maxRecDepth 20000 in
theorem r_M_step_221 : je X 53 221 L (.inl p :: .inr (.inl (some a)) :: S) σ = je_i X 53 222 L S σ (jm_al σ.1 a 0 p) := je_ald (show jm_fe 53 221 = some (jk_ald 0) from rfl)
set_option maxRecDepth 20000 in
theorem r_M_step_222 : je X 53 222 L (.inl p :: .inr (.inl (some a)) :: S) σ = je_i X 53 223 L S σ (jm_al σ.1 a 0 p) := je_ald (show jm_fe 53 222 = some (jk_ald 0) from rfl)
set_option maxRecDepth 20000 in
theorem r_M_step_223 : je X 53 223 [l0, l1, l2, l3, l4, l5] (.inl x :: S) σ = je X 53 225 [l0, l1, l2, l3, l4, some (.inl x)] S σ := je_istore (show jm_fe 53 223 = some (jk_istore 5 2) from rfl) (Nat.le_of_ble_eq_true rfl)
set_option maxRecDepth 20000 in
theorem r_M_step_225 : je X 53 225 [some (.inr r), l1, l2, l3, l4, l5] S σ = je X 53 226 [some (.inr r), l1, l2, l3, l4, l5] (.inr r :: S) σ := je_aload (show jm_fe 53 225 = some (jk_aload 0 1) from rfl) rfl
set_option maxRecDepth 20000 in
theorem r_M_step_226 : je X 53 226 L S σ = je X 53 227 L (.inl 1 :: S) σ := je_const (show jm_fe 53 226 = some (jk_const 1 1) from rfl)
set_option maxRecDepth 20000 in
theorem r_M_step_227 (hc : jm_cl σ.1 a = some 9) (h8 : S.length ≤ 8) : je X 53 227 L (v0 :: .inr (.inl (some a)) :: S) σ = je_c X 53 230 L S (je X 36 0 [some (.inr (.inl (some a))), some v0] [] σ) := je_callV (as := [v0]) (S' := S) (show jm_fe 53 227 = some (jk_callV 36 1 9) from rfl) rfl hc h8
set_option maxRecDepth 20000 in
theorem r_M_step_230 : je X 53 230 [some (.inr r), l1, l2, l3, l4, l5] S σ = je X 53 231 [some (.inr r), l1, l2, l3, l4, l5] (.inr r :: S) σ := je_aload (show jm_fe 53 230 = some (jk_aload 0 1) from rfl) rfl
set_option maxRecDepth 20000 in
theorem r_M_step_231 : je X 53 231 [l0, l1, l2, l3, l4, some (.inl x)] S σ = je X 53 233 [l0, l1, l2, l3, l4, some (.inl x)] (.inl x :: S) σ := je_iload (show jm_fe 53 231 = some (jk_iload 5 2) from rfl) rfl
set_option maxRecDepth 20000 in
theorem r_M_step_233 : je X 53 233 L S σ = je X 53 234 L (.inl 0 :: S) σ := je_const (show jm_fe 53 233 = some (jk_const 0 1) from rfl)
set_option maxRecDepth 20000 in
theorem r_M_step_234 (hc : jm_cl σ.1 a = some 9) (h8 : S.length ≤ 8) : je X 53 234 L (v1 :: v0 :: .inr (.inl (some a)) :: S) σ = je_c X 53 237 L S (je X 34 0 [some (.inr (.inl (some a))), some v0, some v1, none] [] σ) := je_callV (as := [v0, v1]) (S' := S) (show jm_fe 53 234 = some (jk_callV 34 2 9) from rfl) rfl hc h8
set_option maxRecDepth 20000 in
theorem r_M_step_237 : je X 53 237 [some (.inr r), l1, l2, l3, l4, l5] S σ = je X 53 238 [some (.inr r), l1, l2, l3, l4, l5] (.inr r :: S) σ := je_aload (show jm_fe 53 237 = some (jk_aload 0 1) from rfl) rfl
set_option maxRecDepth 20000 in
theorem r_M_step_238 (hc : jm_cl σ.1 a = some 9) (h8 : S.length ≤ 8) : je X 53 238 L (.inr (.inl (some a)) :: S) σ = je_c X 53 241 L S (je X 37 0 [some (.inr (.inl (some a)))] [] σ) := je_callV (as := []) (S' := S) (show jm_fe 53 238 = some (jk_callV 37 0 9) from rfl) rfl hc h8
set_option maxRecDepth 20000 in
theorem r_M_step_241 : je X 53 241 L S σ = je X 53 301 L S σ := je_goto (show jm_fe 53 241 = some (jk_goto 301) from rfl)
set_option maxRecDepth 20000 in
theorem r_M_step_244 : je X 53 244 [l0, l1, l2, some (.inl x), l4, l5] S σ = je X 53 245 [l0, l1, l2, some (.inl x), l4, l5] (.inl x :: S) σ := je_iload (show jm_fe 53 244 = some (jk_iload 3 1) from rfl) rfl
set_option maxRecDepth 20000 in
theorem r_M_step_245 : je X 53 245 L S σ = je X 53 247 L (.inl 25 :: S) σ := je_const (show jm_fe 53 245 = some (jk_const (25) 2) from rfl)
set_option maxRecDepth 20000 in
theorem r_M_step_247 : je X 53 247 L (.inl q :: .inl p :: S) σ = if p = q then je X 53 250 L S σ else je X 53 259 L S σ := je_icmp_ne (show jm_fe 53 247 = some (jk_icmp .ne 259) from rfl)
set_option maxRecDepth 20000 in
theorem r_M_step_250 : je X 53 250 [some (.inr r), l1, l2, l3, l4, l5] S σ = je X 53 251 [some (.inr r), l1, l2, l3, l4, l5] (.inr r :: S) σ := je_aload (show jm_fe 53 250 = some (jk_aload 0 1) from rfl) rfl
set_option maxRecDepth 20000 in
theorem r_M_step_251 : je X 53 251 [l0, l1, l2, l3, some (.inl x), l5] S σ = je X 53 253 [l0, l1, l2, l3, some (.inl x), l5] (.inl x :: S) σ := je_iload (show jm_fe 53 251 = some (jk_iload 4 2) from rfl) rfl
set_option maxRecDepth 20000 in
theorem r_M_step_253 (hc : jm_cl σ.1 a = some 9) (h8 : S.length ≤ 8) : je X 53 253 L (v0 :: .inr (.inl (some a)) :: S) σ = je_c X 53 256 L S (je X 46 0 [some (.inr (.inl (some a))), some v0, none, none, none] [] σ) := je_callV (as := [v0]) (S' := S) (show jm_fe 53 253 = some (jk_callV 46 1 9) from rfl) rfl hc h8
set_option maxRecDepth 20000 in
theorem r_M_step_256 : je X 53 256 L S σ = je X 53 301 L S σ := je_goto (show jm_fe 53 256 = some (jk_goto 301) from rfl)
set_option maxRecDepth 20000 in
theorem r_M_step_259 : je X 53 259 [l0, l1, l2, some (.inl x), l4, l5] S σ = je X 53 260 [l0, l1, l2, some (.inl x), l4, l5] (.inl x :: S) σ := je_iload (show jm_fe 53 259 = some (jk_iload 3 1) from rfl) rfl
set_option maxRecDepth 20000 in
theorem r_M_step_260 : je X 53 260 L S σ = je X 53 262 L (.inl 26 :: S) σ := je_const (show jm_fe 53 260 = some (jk_const (26) 2) from rfl)
set_option maxRecDepth 20000 in
theorem r_M_step_262 : je X 53 262 L (.inl q :: .inl p :: S) σ = if p = q then je X 53 265 L S σ else je X 53 274 L S σ := je_icmp_ne (show jm_fe 53 262 = some (jk_icmp .ne 274) from rfl)
set_option maxRecDepth 20000 in
theorem r_M_step_265 : je X 53 265 [some (.inr r), l1, l2, l3, l4, l5] S σ = je X 53 266 [some (.inr r), l1, l2, l3, l4, l5] (.inr r :: S) σ := je_aload (show jm_fe 53 265 = some (jk_aload 0 1) from rfl) rfl
set_option maxRecDepth 20000 in
theorem r_M_step_266 : je X 53 266 [l0, l1, l2, l3, some (.inl x), l5] S σ = je X 53 268 [l0, l1, l2, l3, some (.inl x), l5] (.inl x :: S) σ := je_iload (show jm_fe 53 266 = some (jk_iload 4 2) from rfl) rfl
set_option maxRecDepth 20000 in
theorem r_M_step_268 (hc : jm_cl σ.1 a = some 9) (h8 : S.length ≤ 8) : je X 53 268 L (v0 :: .inr (.inl (some a)) :: S) σ = je_c X 53 271 L S (je X 47 0 [some (.inr (.inl (some a))), some v0, none, none, none] [] σ) := je_callV (as := [v0]) (S' := S) (show jm_fe 53 268 = some (jk_callV 47 1 9) from rfl) rfl hc h8
set_option maxRecDepth 20000 in
theorem r_M_step_271 : je X 53 271 L S σ = je X 53 301 L S σ := je_goto (show jm_fe 53 271 = some (jk_goto 301) from rfl)
set_option maxRecDepth 20000 in
theorem r_M_step_274 : je X 53 274 [l0, l1, l2, some (.inl x), l4, l5] S σ = je X 53 275 [l0, l1, l2, some (.inl x), l4, l5] (.inl x :: S) σ := je_iload (show jm_fe 53 274 = some (jk_iload 3 1) from rfl) rfl
set_option maxRecDepth 20000 in
theorem r_M_step_275 : je X 53 275 L S σ = je X 53 277 L (.inl 27 :: S) σ := je_const (show jm_fe 53 275 = some (jk_const (27) 2) from rfl)
set_option maxRecDepth 20000 in
theorem r_M_step_277 : je X 53 277 L (.inl q :: .inl p :: S) σ = if p = q then je X 53 280 L S σ else je X 53 287 L S σ := je_icmp_ne (show jm_fe 53 277 = some (jk_icmp .ne 287) from rfl)
set_option maxRecDepth 20000 in
theorem r_M_step_280 : je X 53 280 [some (.inr r), l1, l2, l3, l4, l5] S σ = je X 53 281 [some (.inr r), l1, l2, l3, l4, l5] (.inr r :: S) σ := je_aload (show jm_fe 53 280 = some (jk_aload 0 1) from rfl) rfl
set_option maxRecDepth 20000 in
theorem r_M_step_281 (hc : jm_cl σ.1 a = some 9) (h8 : S.length ≤ 8) : je X 53 281 L (.inr (.inl (some a)) :: S) σ = je_c X 53 284 L S (je X 48 0 [some (.inr (.inl (some a))), none, none, none] [] σ) := je_callV (as := []) (S' := S) (show jm_fe 53 281 = some (jk_callV 48 0 9) from rfl) rfl hc h8
set_option maxRecDepth 20000 in
theorem r_M_step_284 : je X 53 284 L S σ = je X 53 301 L S σ := je_goto (show jm_fe 53 284 = some (jk_goto 301) from rfl)
set_option maxRecDepth 20000 in
theorem r_M_step_287 : je X 53 287 [some (.inr r), l1, l2, l3, l4, l5] S σ = je X 53 288 [some (.inr r), l1, l2, l3, l4, l5] (.inr r :: S) σ := je_aload (show jm_fe 53 287 = some (jk_aload 0 1) from rfl) rfl
set_option maxRecDepth 20000 in
theorem r_M_step_288 : je X 53 288 [some (.inr r), l1, l2, l3, l4, l5] S σ = je X 53 289 [some (.inr r), l1, l2, l3, l4, l5] (.inr r :: S) σ := je_aload (show jm_fe 53 288 = some (jk_aload 0 1) from rfl) rfl
set_option maxRecDepth 20000 in
theorem r_M_step_289 : je X 53 289 L (.inr (.inl (some a)) :: S) σ = je_v X 53 292 L S σ (jm_gf σ.1 a 9 26) := je_getf (show jm_fe 53 289 = some (jk_getf 9 26) from rfl)
set_option maxRecDepth 20000 in
theorem r_M_step_292 : je X 53 292 [some (.inr r), l1, l2, l3, l4, l5] S σ = je X 53 293 [some (.inr r), l1, l2, l3, l4, l5] (.inr r :: S) σ := je_aload (show jm_fe 53 292 = some (jk_aload 0 1) from rfl) rfl
set_option maxRecDepth 20000 in
theorem r_M_step_293 : je X 53 293 L S σ = je X 53 294 L (.inl 0 :: S) σ := je_const (show jm_fe 53 293 = some (jk_const 0 1) from rfl)
set_option maxRecDepth 20000 in
theorem r_M_step_294 (hc : jm_cl σ.1 a = some 9) (h8 : S.length ≤ 8) : je X 53 294 L (v0 :: .inr (.inl (some a)) :: S) σ = je_c X 53 297 L S (je X 35 0 [some (.inr (.inl (some a))), some v0] [] σ) := je_callV (as := [v0]) (S' := S) (show jm_fe 53 294 = some (jk_callV 35 1 9) from rfl) rfl hc h8
set_option maxRecDepth 20000 in
theorem r_M_step_297 : je X 53 297 L (.inl p :: .inr (.inl (some a)) :: S) σ = je_i X 53 298 L S σ (jm_al σ.1 a 0 p) := je_ald (show jm_fe 53 297 = some (jk_ald 0) from rfl)
set_option maxRecDepth 20000 in
theorem r_M_step_298 (hc : jm_cl σ.1 a = some 9) (h8 : S.length ≤ 8) : je X 53 298 L (v0 :: .inr (.inl (some a)) :: S) σ = je_c X 53 301 L S (je X 42 0 [some (.inr (.inl (some a))), some v0, none, none, none] [] σ) := je_callV (as := [v0]) (S' := S) (show jm_fe 53 298 = some (jk_callV 42 1 9) from rfl) rfl hc h8
set_option maxRecDepth 20000 in
theorem r_M_step_301 : je X 53 301 L [] σ = some (none, σ) := je_ret (show jm_fe 53 301 = some (jk_ret) from rfl)
theorem r_M_go_0 : je X 54 0 [some (.inr r), l1, l2, l3] S σ = je X 54 1 [some (.inr r), l1, l2, l3] (.inr r :: S) σ := je_aload (show jm_fe 54 0 = some (jk_aload 0 1) from rfl) rfl
theorem r_M_go_1 : je X 54 1 L S σ = je X 54 2 L (.inl 0 :: S) σ := je_const (show jm_fe 54 1 = some (jk_const 0 1) from rfl)
theorem r_M_go_2 : je X 54 2 L (v :: .inr (.inl (some a)) :: S) σ = je_h X 54 5 L S σ.2 (jm_pf σ.1 a 9 0 0 v) := je_putf (show jm_fe 54 2 = some (jk_putf 9 0 0) from rfl)
theorem r_M_go_5 : je X 54 5 [l0, some (.inl x), l2, l3] S σ = je X 54 6 [l0, some (.inl x), l2, l3] (.inl x :: S) σ := je_iload (show jm_fe 54 5 = some (jk_iload 1 1) from rfl) rfl
theorem r_M_go_6 : je X 54 6 L S σ = je X 54 7 L (.inl 1 :: S) σ := je_const (show jm_fe 54 6 = some (jk_const 1 1) from rfl)
theorem r_M_go_7 : je X 54 7 L (.inl q :: .inl p :: S) σ = if p < q then je X 54 24 L S σ else je X 54 10 L S σ := je_icmp_lt (show jm_fe 54 7 = some (jk_icmp .lt 24) from rfl)
theorem r_M_go_10 : je X 54 10 [l0, some (.inl x), l2, l3] S σ = je X 54 11 [l0, some (.inl x), l2, l3] (.inl x :: S) σ := je_iload (show jm_fe 54 10 = some (jk_iload 1 1) from rfl) rfl
theorem r_M_go_11 : je X 54 11 L S σ = je X 54 14 L (.inl 5000 :: S) σ := je_const (show jm_fe 54 11 = some (jk_const (5000) 3) from rfl)
theorem r_M_go_14 : je X 54 14 L (.inl q :: .inl p :: S) σ = if q < p then je X 54 24 L S σ else je X 54 17 L S σ := je_icmp_gt (show jm_fe 54 14 = some (jk_icmp .gt 24) from rfl)
theorem r_M_go_17 : je X 54 17 [some (.inr r), l1, l2, l3] S σ = je X 54 18 [some (.inr r), l1, l2, l3] (.inr r :: S) σ := je_aload (show jm_fe 54 17 = some (jk_aload 0 1) from rfl) rfl
theorem r_M_go_18 : je X 54 18 L (.inr (.inl (some a)) :: S) σ = je_v X 54 21 L S σ (jm_gf σ.1 a 9 16) := je_getf (show jm_fe 54 18 = some (jk_getf 9 16) from rfl)
theorem r_M_go_21 : je X 54 21 L (.inl p :: S) σ = if p = 0 then je X 54 24 L S σ else je X 54 26 L S σ := je_if_ne (show jm_fe 54 21 = some (jk_if .ne 26) from rfl)
theorem r_M_go_24 : je X 54 24 L S σ = je X 54 25 L (.inl (-1) :: S) σ := je_const (show jm_fe 54 24 = some (jk_const (-1) 1) from rfl)
theorem r_M_go_25 : je X 54 25 L [.inl p] σ = some (some (.inl p), σ) := je_iret (show jm_fe 54 25 = some (jk_iret) from rfl)
theorem r_M_go_26 : je X 54 26 [some (.inr r), l1, l2, l3] S σ = je X 54 27 [some (.inr r), l1, l2, l3] (.inr r :: S) σ := je_aload (show jm_fe 54 26 = some (jk_aload 0 1) from rfl) rfl
theorem r_M_go_27 : je X 54 27 L (.inr (.inl (some a)) :: S) σ = je_v X 54 30 L S σ (jm_gf σ.1 a 9 19) := je_getf (show jm_fe 54 27 = some (jk_getf 9 19) from rfl)
theorem r_M_go_30 : je X 54 30 [l0, l1, l2, l3] (.inl x :: S) σ = je X 54 31 [l0, l1, some (.inl x), l3] S σ := je_istore (show jm_fe 54 30 = some (jk_istore 2 1) from rfl) (Nat.le_of_ble_eq_true rfl)
theorem r_M_go_31 : je X 54 31 L S σ = je X 54 32 L (.inl 0 :: S) σ := je_const (show jm_fe 54 31 = some (jk_const 0 1) from rfl)
theorem r_M_go_32 : je X 54 32 [l0, l1, l2, l3] (.inl x :: S) σ = je X 54 33 [l0, l1, l2, some (.inl x)] S σ := je_istore (show jm_fe 54 32 = some (jk_istore 3 1) from rfl) (Nat.le_of_ble_eq_true rfl)
theorem r_M_go_33 : je X 54 33 [l0, l1, l2, some (.inl x)] S σ = je X 54 34 [l0, l1, l2, some (.inl x)] (.inl x :: S) σ := je_iload (show jm_fe 54 33 = some (jk_iload 3 1) from rfl) rfl
theorem r_M_go_34 : je X 54 34 [l0, some (.inl x), l2, l3] S σ = je X 54 35 [l0, some (.inl x), l2, l3] (.inl x :: S) σ := je_iload (show jm_fe 54 34 = some (jk_iload 1 1) from rfl) rfl
theorem r_M_go_35 : je X 54 35 L (.inl q :: .inl p :: S) σ = if q ≤ p then je X 54 66 L S σ else je X 54 38 L S σ := je_icmp_ge (show jm_fe 54 35 = some (jk_icmp .ge 66) from rfl)
theorem r_M_go_38 : je X 54 38 [some (.inr r), l1, l2, l3] S σ = je X 54 39 [some (.inr r), l1, l2, l3] (.inr r :: S) σ := je_aload (show jm_fe 54 38 = some (jk_aload 0 1) from rfl) rfl
theorem r_M_go_39 : je X 54 39 L (.inr (.inl (some a)) :: S) σ = je_v X 54 42 L S σ (jm_gf σ.1 a 9 17) := je_getf (show jm_fe 54 39 = some (jk_getf 9 17) from rfl)
theorem r_M_go_42 : je X 54 42 L S σ = je X 54 43 L (.inl (-1) :: S) σ := je_const (show jm_fe 54 42 = some (jk_const (-1) 1) from rfl)
theorem r_M_go_43 : je X 54 43 L (.inl q :: .inl p :: S) σ = if p = q then je X 54 46 L S σ else je X 54 66 L S σ := je_icmp_ne (show jm_fe 54 43 = some (jk_icmp .ne 66) from rfl)
theorem r_M_go_46 : je X 54 46 [some (.inr r), l1, l2, l3] S σ = je X 54 47 [some (.inr r), l1, l2, l3] (.inr r :: S) σ := je_aload (show jm_fe 54 46 = some (jk_aload 0 1) from rfl) rfl
theorem r_M_go_47 : je X 54 47 L (v :: S) σ = je X 54 48 L (v :: v :: S) σ := je_dup (show jm_fe 54 47 = some (jk_dup) from rfl)
theorem r_M_go_48 : je X 54 48 L (.inr (.inl (some a)) :: S) σ = je_v X 54 51 L S σ (jm_gf σ.1 a 9 19) := je_getf (show jm_fe 54 48 = some (jk_getf 9 19) from rfl)
theorem r_M_go_51 : je X 54 51 L S σ = je X 54 52 L (.inl 1 :: S) σ := je_const (show jm_fe 54 51 = some (jk_const 1 1) from rfl)
theorem r_M_go_52 : je X 54 52 L (.inl q :: .inl p :: S) σ = je X 54 53 L (.inl (p + q) :: S) σ := je_bin (show jm_fe 54 52 = some (jb_iadd) from rfl)
theorem r_M_go_53 : je X 54 53 L (v :: .inr (.inl (some a)) :: S) σ = je_h X 54 56 L S σ.2 (jm_pf σ.1 a 9 19 0 v) := je_putf (show jm_fe 54 53 = some (jk_putf 9 19 0) from rfl)
theorem r_M_go_56 : je X 54 56 [some (.inr r), l1, l2, l3] S σ = je X 54 57 [some (.inr r), l1, l2, l3] (.inr r :: S) σ := je_aload (show jm_fe 54 56 = some (jk_aload 0 1) from rfl) rfl
theorem r_M_go_57 (hc : jm_cl σ.1 a = some 9) (h8 : S.length ≤ 8) : je X 54 57 L (.inr (.inl (some a)) :: S) σ = je_c X 54 60 L S (je X 53 0 [some (.inr (.inl (some a))), none, none, none, none, none] [] σ) := je_callV (as := []) (S' := S) (show jm_fe 54 57 = some (jk_callV 53 0 9) from rfl) rfl hc h8
theorem r_M_go_60 : je X 54 60 [l0, l1, l2, some (.inl x)] S σ = je X 54 63 [l0, l1, l2, some (.inl (x + (1)))] S σ := je_iinc (show jm_fe 54 60 = some (jk_iinc 3 (1)) from rfl) rfl
theorem r_M_go_63 : je X 54 63 L S σ = je X 54 33 L S σ := je_goto (show jm_fe 54 63 = some (jk_goto 33) from rfl)
theorem r_M_go_66 : je X 54 66 [some (.inr r), l1, l2, l3] S σ = je X 54 67 [some (.inr r), l1, l2, l3] (.inr r :: S) σ := je_aload (show jm_fe 54 66 = some (jk_aload 0 1) from rfl) rfl
theorem r_M_go_67 : je X 54 67 L (.inr (.inl (some a)) :: S) σ = je_v X 54 70 L S σ (jm_gf σ.1 a 9 19) := je_getf (show jm_fe 54 67 = some (jk_getf 9 19) from rfl)
theorem r_M_go_70 : je X 54 70 [l0, l1, some (.inl x), l3] S σ = je X 54 71 [l0, l1, some (.inl x), l3] (.inl x :: S) σ := je_iload (show jm_fe 54 70 = some (jk_iload 2 1) from rfl) rfl
theorem r_M_go_71 : je X 54 71 L (.inl q :: .inl p :: S) σ = je X 54 72 L (.inl (p - q) :: S) σ := je_bin (show jm_fe 54 71 = some (jb_isub) from rfl)
theorem r_M_go_72 : je X 54 72 L [.inl p] σ = some (some (.inl p), σ) := je_iret (show jm_fe 54 72 = some (jk_iret) from rfl)
theorem r_M_isDone_0 : je X 55 0 [some (.inr r), l1] S σ = je X 55 1 [some (.inr r), l1] (.inr r :: S) σ := je_aload (show jm_fe 55 0 = some (jk_aload 0 1) from rfl) rfl
theorem r_M_isDone_1 : je X 55 1 L (.inr (.inl (some a)) :: S) σ = je_v X 55 4 L S σ (jm_gf σ.1 a 9 16) := je_getf (show jm_fe 55 1 = some (jk_getf 9 16) from rfl)
theorem r_M_isDone_4 : je X 55 4 L (.inl p :: S) σ = if p = 0 then je X 55 23 L S σ else je X 55 7 L S σ := je_if_eq (show jm_fe 55 4 = some (jk_if .eq 23) from rfl)
theorem r_M_isDone_7 : je X 55 7 [l0, some (.inl x)] S σ = je X 55 8 [l0, some (.inl x)] (.inl x :: S) σ := je_iload (show jm_fe 55 7 = some (jk_iload 1 1) from rfl) rfl
theorem r_M_isDone_8 : je X 55 8 L (.inl p :: S) σ = if p < 0 then je X 55 23 L S σ else je X 55 11 L S σ := je_if_lt (show jm_fe 55 8 = some (jk_if .lt 23) from rfl)
theorem r_M_isDone_11 : je X 55 11 [l0, some (.inl x)] S σ = je X 55 12 [l0, some (.inl x)] (.inl x :: S) σ := je_iload (show jm_fe 55 11 = some (jk_iload 1 1) from rfl) rfl
theorem r_M_isDone_12 : je X 55 12 [some (.inr r), l1] S σ = je X 55 13 [some (.inr r), l1] (.inr r :: S) σ := je_aload (show jm_fe 55 12 = some (jk_aload 0 1) from rfl) rfl
theorem r_M_isDone_13 : je X 55 13 L (.inr (.inl (some a)) :: S) σ = je_v X 55 16 L S σ (jm_gf σ.1 a 9 22) := je_getf (show jm_fe 55 13 = some (jk_getf 9 22) from rfl)
theorem r_M_isDone_16 : je X 55 16 L (.inl q :: .inl p :: S) σ = if q ≤ p then je X 55 23 L S σ else je X 55 19 L S σ := je_icmp_ge (show jm_fe 55 16 = some (jk_icmp .ge 23) from rfl)
theorem r_M_isDone_19 : je X 55 19 L S σ = je X 55 20 L (.inl 1 :: S) σ := je_const (show jm_fe 55 19 = some (jk_const 1 1) from rfl)
theorem r_M_isDone_20 : je X 55 20 L S σ = je X 55 24 L S σ := je_goto (show jm_fe 55 20 = some (jk_goto 24) from rfl)
theorem r_M_isDone_23 : je X 55 23 L S σ = je X 55 24 L (.inl 0 :: S) σ := je_const (show jm_fe 55 23 = some (jk_const 0 1) from rfl)
theorem r_M_isDone_24 (hx : p = 0 ∨ p = 1) : je X 55 24 L [.inl p] σ = some (some (.inl p), σ) := je_zret (show jm_fe 55 24 = some (jk_zret) from rfl) hx
theorem r_M_frame_0 : je X 56 0 [some (.inr r), l1, l2, l3] S σ = je X 56 1 [some (.inr r), l1, l2, l3] (.inr r :: S) σ := je_aload (show jm_fe 56 0 = some (jk_aload 0 1) from rfl) rfl
theorem r_M_frame_1 : je X 56 1 L S σ = je X 56 2 L (.inl 0 :: S) σ := je_const (show jm_fe 56 1 = some (jk_const 0 1) from rfl)
theorem r_M_frame_2 : je X 56 2 L (v :: .inr (.inl (some a)) :: S) σ = je_h X 56 5 L S σ.2 (jm_pf σ.1 a 9 0 0 v) := je_putf (show jm_fe 56 2 = some (jk_putf 9 0 0) from rfl)
theorem r_M_frame_5 : je X 56 5 [some (.inr r), l1, l2, l3] S σ = je X 56 6 [some (.inr r), l1, l2, l3] (.inr r :: S) σ := je_aload (show jm_fe 56 5 = some (jk_aload 0 1) from rfl) rfl
theorem r_M_frame_6 : je X 56 6 [l0, some (.inl x), l2, l3] S σ = je X 56 7 [l0, some (.inl x), l2, l3] (.inl x :: S) σ := je_iload (show jm_fe 56 6 = some (jk_iload 1 1) from rfl) rfl
theorem r_M_frame_7 (hc : jm_cl σ.1 a = some 9) (h8 : S.length ≤ 8) : je X 56 7 L (v0 :: .inr (.inl (some a)) :: S) σ = je_c X 56 10 L S (je X 55 0 [some (.inr (.inl (some a))), some v0] [] σ) := je_callV (as := [v0]) (S' := S) (show jm_fe 56 7 = some (jk_callV 55 1 9) from rfl) rfl hc h8
theorem r_M_frame_10 : je X 56 10 L (.inl p :: S) σ = if p = 0 then je X 56 13 L S σ else je X 56 15 L S σ := je_if_ne (show jm_fe 56 10 = some (jk_if .ne 15) from rfl)
theorem r_M_frame_13 : je X 56 13 L S σ = je X 56 14 L (.inl (-1) :: S) σ := je_const (show jm_fe 56 13 = some (jk_const (-1) 1) from rfl)
theorem r_M_frame_14 : je X 56 14 L [.inl p] σ = some (some (.inl p), σ) := je_iret (show jm_fe 56 14 = some (jk_iret) from rfl)
theorem r_M_frame_15 : je X 56 15 [some (.inr r), l1, l2, l3] S σ = je X 56 16 [some (.inr r), l1, l2, l3] (.inr r :: S) σ := je_aload (show jm_fe 56 15 = some (jk_aload 0 1) from rfl) rfl
theorem r_M_frame_16 : je X 56 16 L (.inr (.inl (some a)) :: S) σ = je_v X 56 19 L S σ (jm_gf σ.1 a 9 22) := je_getf (show jm_fe 56 16 = some (jk_getf 9 22) from rfl)
theorem r_M_frame_19 : je X 56 19 L S σ = je X 56 20 L (.inl 1 :: S) σ := je_const (show jm_fe 56 19 = some (jk_const 1 1) from rfl)
theorem r_M_frame_20 : je X 56 20 L (.inl q :: .inl p :: S) σ = je X 56 21 L (.inl (p - q) :: S) σ := je_bin (show jm_fe 56 20 = some (jb_isub) from rfl)
theorem r_M_frame_21 : je X 56 21 [l0, some (.inl x), l2, l3] S σ = je X 56 22 [l0, some (.inl x), l2, l3] (.inl x :: S) σ := je_iload (show jm_fe 56 21 = some (jk_iload 1 1) from rfl) rfl
theorem r_M_frame_22 : je X 56 22 L (.inl q :: .inl p :: S) σ = je X 56 23 L (.inl (p - q) :: S) σ := je_bin (show jm_fe 56 22 = some (jb_isub) from rfl)
theorem r_M_frame_23 : je X 56 23 [l0, l1, l2, l3] (.inl x :: S) σ = je X 56 24 [l0, l1, l2, some (.inl x)] S σ := je_istore (show jm_fe 56 23 = some (jk_istore 3 1) from rfl) (Nat.le_of_ble_eq_true rfl)
theorem r_M_frame_24 : je X 56 24 [l0, l1, some (.inl x), l3] S σ = je X 56 25 [l0, l1, some (.inl x), l3] (.inl x :: S) σ := je_iload (show jm_fe 56 24 = some (jk_iload 2 1) from rfl) rfl
theorem r_M_frame_25 : je X 56 25 L (.inl p :: S) σ = if p = 0 then je X 56 28 L S σ else je X 56 37 L S σ := je_if_ne (show jm_fe 56 25 = some (jk_if .ne 37) from rfl)
theorem r_M_frame_28 : je X 56 28 [some (.inr r), l1, l2, l3] S σ = je X 56 29 [some (.inr r), l1, l2, l3] (.inr r :: S) σ := je_aload (show jm_fe 56 28 = some (jk_aload 0 1) from rfl) rfl
theorem r_M_frame_29 : je X 56 29 L (.inr (.inl (some a)) :: S) σ = je_v X 56 32 L S σ (jm_gf σ.1 a 9 23) := je_getf (show jm_fe 56 29 = some (jk_getf 9 23) from rfl)
theorem r_M_frame_32 : je X 56 32 [l0, l1, l2, some (.inl x)] S σ = je X 56 33 [l0, l1, l2, some (.inl x)] (.inl x :: S) σ := je_iload (show jm_fe 56 32 = some (jk_iload 3 1) from rfl) rfl
theorem r_M_frame_33 : je X 56 33 L (.inl p :: .inr (.inl (some a)) :: S) σ = je_i X 56 34 L S σ (jm_al σ.1 a 0 p) := je_ald (show jm_fe 56 33 = some (jk_ald 0) from rfl)
theorem r_M_frame_34 : je X 56 34 L S σ = je X 56 66 L S σ := je_goto (show jm_fe 56 34 = some (jk_goto 66) from rfl)
theorem r_M_frame_37 : je X 56 37 [l0, l1, some (.inl x), l3] S σ = je X 56 38 [l0, l1, some (.inl x), l3] (.inl x :: S) σ := je_iload (show jm_fe 56 37 = some (jk_iload 2 1) from rfl) rfl
theorem r_M_frame_38 : je X 56 38 L S σ = je X 56 39 L (.inl 1 :: S) σ := je_const (show jm_fe 56 38 = some (jk_const 1 1) from rfl)
theorem r_M_frame_39 : je X 56 39 L (.inl q :: .inl p :: S) σ = if p = q then je X 56 42 L S σ else je X 56 51 L S σ := je_icmp_ne (show jm_fe 56 39 = some (jk_icmp .ne 51) from rfl)
theorem r_M_frame_42 : je X 56 42 [some (.inr r), l1, l2, l3] S σ = je X 56 43 [some (.inr r), l1, l2, l3] (.inr r :: S) σ := je_aload (show jm_fe 56 42 = some (jk_aload 0 1) from rfl) rfl
theorem r_M_frame_43 : je X 56 43 L (.inr (.inl (some a)) :: S) σ = je_v X 56 46 L S σ (jm_gf σ.1 a 9 24) := je_getf (show jm_fe 56 43 = some (jk_getf 9 24) from rfl)
theorem r_M_frame_46 : je X 56 46 [l0, l1, l2, some (.inl x)] S σ = je X 56 47 [l0, l1, l2, some (.inl x)] (.inl x :: S) σ := je_iload (show jm_fe 56 46 = some (jk_iload 3 1) from rfl) rfl
theorem r_M_frame_47 : je X 56 47 L (.inl p :: .inr (.inl (some a)) :: S) σ = je_i X 56 48 L S σ (jm_al σ.1 a 0 p) := je_ald (show jm_fe 56 47 = some (jk_ald 0) from rfl)
theorem r_M_frame_48 : je X 56 48 L S σ = je X 56 66 L S σ := je_goto (show jm_fe 56 48 = some (jk_goto 66) from rfl)
theorem r_M_frame_51 : je X 56 51 [l0, l1, some (.inl x), l3] S σ = je X 56 52 [l0, l1, some (.inl x), l3] (.inl x :: S) σ := je_iload (show jm_fe 56 51 = some (jk_iload 2 1) from rfl) rfl
theorem r_M_frame_52 : je X 56 52 L S σ = je X 56 53 L (.inl 2 :: S) σ := je_const (show jm_fe 56 52 = some (jk_const 2 1) from rfl)
theorem r_M_frame_53 : je X 56 53 L (.inl q :: .inl p :: S) σ = if p = q then je X 56 56 L S σ else je X 56 65 L S σ := je_icmp_ne (show jm_fe 56 53 = some (jk_icmp .ne 65) from rfl)
theorem r_M_frame_56 : je X 56 56 [some (.inr r), l1, l2, l3] S σ = je X 56 57 [some (.inr r), l1, l2, l3] (.inr r :: S) σ := je_aload (show jm_fe 56 56 = some (jk_aload 0 1) from rfl) rfl
theorem r_M_frame_57 : je X 56 57 L (.inr (.inl (some a)) :: S) σ = je_v X 56 60 L S σ (jm_gf σ.1 a 9 25) := je_getf (show jm_fe 56 57 = some (jk_getf 9 25) from rfl)
theorem r_M_frame_60 : je X 56 60 [l0, l1, l2, some (.inl x)] S σ = je X 56 61 [l0, l1, l2, some (.inl x)] (.inl x :: S) σ := je_iload (show jm_fe 56 60 = some (jk_iload 3 1) from rfl) rfl
theorem r_M_frame_61 : je X 56 61 L (.inl p :: .inr (.inl (some a)) :: S) σ = je_i X 56 62 L S σ (jm_al σ.1 a 0 p) := je_ald (show jm_fe 56 61 = some (jk_ald 0) from rfl)
theorem r_M_frame_62 : je X 56 62 L S σ = je X 56 66 L S σ := je_goto (show jm_fe 56 62 = some (jk_goto 66) from rfl)
theorem r_M_frame_65 : je X 56 65 L S σ = je X 56 66 L (.inl (-1) :: S) σ := je_const (show jm_fe 56 65 = some (jk_const (-1) 1) from rfl)
theorem r_M_frame_66 : je X 56 66 L [.inl p] σ = some (some (.inl p), σ) := je_iret (show jm_fe 56 66 = some (jk_iret) from rfl)
theorem r_M_many_0 : je X 57 0 [l0, l1, some (.inl x)] S σ = je X 57 1 [l0, l1, some (.inl x)] (.inl x :: S) σ := je_iload (show jm_fe 57 0 = some (jk_iload 2 1) from rfl) rfl
theorem r_M_many_1 : je X 57 1 L (.inl p :: S) σ = if p = 0 then je X 57 4 L S σ else je X 57 13 L S σ := je_if_ne (show jm_fe 57 1 = some (jk_if .ne 13) from rfl)
theorem r_M_many_4 : je X 57 4 [some (.inr r), l1, l2] S σ = je X 57 5 [some (.inr r), l1, l2] (.inr r :: S) σ := je_aload (show jm_fe 57 4 = some (jk_aload 0 1) from rfl) rfl
theorem r_M_many_5 : je X 57 5 L (.inr (.inl (some a)) :: S) σ = je_v X 57 8 L S σ (jm_gf σ.1 a 9 25) := je_getf (show jm_fe 57 5 = some (jk_getf 9 25) from rfl)
theorem r_M_many_8 : je X 57 8 [l0, some (.inl x), l2] S σ = je X 57 9 [l0, some (.inl x), l2] (.inl x :: S) σ := je_iload (show jm_fe 57 8 = some (jk_iload 1 1) from rfl) rfl
theorem r_M_many_9 : je X 57 9 L (.inl p :: .inr (.inl (some a)) :: S) σ = je_i X 57 10 L S σ (jm_al σ.1 a 0 p) := je_ald (show jm_fe 57 9 = some (jk_ald 0) from rfl)
theorem r_M_many_10 : je X 57 10 L S σ = je X 57 41 L S σ := je_goto (show jm_fe 57 10 = some (jk_goto 41) from rfl)
theorem r_M_many_13 : je X 57 13 [some (.inr r), l1, l2] S σ = je X 57 14 [some (.inr r), l1, l2] (.inr r :: S) σ := je_aload (show jm_fe 57 13 = some (jk_aload 0 1) from rfl) rfl
theorem r_M_many_14 : je X 57 14 [some (.inr r), l1, l2] S σ = je X 57 15 [some (.inr r), l1, l2] (.inr r :: S) σ := je_aload (show jm_fe 57 14 = some (jk_aload 0 1) from rfl) rfl
theorem r_M_many_15 : je X 57 15 L (.inr (.inl (some a)) :: S) σ = je_v X 57 18 L S σ (jm_gf σ.1 a 9 23) := je_getf (show jm_fe 57 15 = some (jk_getf 9 23) from rfl)
theorem r_M_many_18 : je X 57 18 [l0, some (.inl x), l2] S σ = je X 57 19 [l0, some (.inl x), l2] (.inl x :: S) σ := je_iload (show jm_fe 57 18 = some (jk_iload 1 1) from rfl) rfl
theorem r_M_many_19 : je X 57 19 L (.inl p :: .inr (.inl (some a)) :: S) σ = je_i X 57 20 L S σ (jm_al σ.1 a 0 p) := je_ald (show jm_fe 57 19 = some (jk_ald 0) from rfl)
theorem r_M_many_20 (hc : jm_cl σ.1 a = some 9) (h8 : S.length ≤ 8) : je X 57 20 L (v0 :: .inr (.inl (some a)) :: S) σ = je_c X 57 23 L S (je X 20 0 [some (.inr (.inl (some a))), some v0] [] σ) := je_callV (as := [v0]) (S' := S) (show jm_fe 57 20 = some (jk_callV 20 1 9) from rfl) rfl hc h8
theorem r_M_many_23 : je X 57 23 L (.inl p :: S) σ = if p = 0 then je X 57 40 L S σ else je X 57 26 L S σ := je_if_eq (show jm_fe 57 23 = some (jk_if .eq 40) from rfl)
theorem r_M_many_26 : je X 57 26 [some (.inr r), l1, l2] S σ = je X 57 27 [some (.inr r), l1, l2] (.inr r :: S) σ := je_aload (show jm_fe 57 26 = some (jk_aload 0 1) from rfl) rfl
theorem r_M_many_27 : je X 57 27 L (.inr (.inl (some a)) :: S) σ = je_v X 57 30 L S σ (jm_gf σ.1 a 9 3) := je_getf (show jm_fe 57 27 = some (jk_getf 9 3) from rfl)
theorem r_M_many_30 : je X 57 30 [some (.inr r), l1, l2] S σ = je X 57 31 [some (.inr r), l1, l2] (.inr r :: S) σ := je_aload (show jm_fe 57 30 = some (jk_aload 0 1) from rfl) rfl
theorem r_M_many_31 : je X 57 31 L (.inr (.inl (some a)) :: S) σ = je_v X 57 34 L S σ (jm_gf σ.1 a 9 23) := je_getf (show jm_fe 57 31 = some (jk_getf 9 23) from rfl)
theorem r_M_many_34 : je X 57 34 [l0, some (.inl x), l2] S σ = je X 57 35 [l0, some (.inl x), l2] (.inl x :: S) σ := je_iload (show jm_fe 57 34 = some (jk_iload 1 1) from rfl) rfl
theorem r_M_many_35 : je X 57 35 L (.inl p :: .inr (.inl (some a)) :: S) σ = je_i X 57 36 L S σ (jm_al σ.1 a 0 p) := je_ald (show jm_fe 57 35 = some (jk_ald 0) from rfl)
theorem r_M_many_36 : je X 57 36 L (.inl p :: .inr (.inl (some a)) :: S) σ = je_i X 57 37 L S σ (jm_al σ.1 a 0 p) := je_ald (show jm_fe 57 36 = some (jk_ald 0) from rfl)
theorem r_M_many_37 : je X 57 37 L S σ = je X 57 41 L S σ := je_goto (show jm_fe 57 37 = some (jk_goto 41) from rfl)
theorem r_M_many_40 : je X 57 40 L S σ = je X 57 41 L (.inl 0 :: S) σ := je_const (show jm_fe 57 40 = some (jk_const 0 1) from rfl)
theorem r_M_many_41 : je X 57 41 L [.inl p] σ = some (some (.inl p), σ) := je_iret (show jm_fe 57 41 = some (jk_iret) from rfl)
theorem r_M_isValue_0 : je X 58 0 [some (.inr r), l1, l2, l3] S σ = je X 58 1 [some (.inr r), l1, l2, l3] (.inr r :: S) σ := je_aload (show jm_fe 58 0 = some (jk_aload 0 1) from rfl) rfl
theorem r_M_isValue_1 : je X 58 1 [l0, some (.inl x), l2, l3] S σ = je X 58 2 [l0, some (.inl x), l2, l3] (.inl x :: S) σ := je_iload (show jm_fe 58 1 = some (jk_iload 1 1) from rfl) rfl
theorem r_M_isValue_2 (hc : jm_cl σ.1 a = some 9) (h8 : S.length ≤ 8) : je X 58 2 L (v0 :: .inr (.inl (some a)) :: S) σ = je_c X 58 5 L S (je X 55 0 [some (.inr (.inl (some a))), some v0] [] σ) := je_callV (as := [v0]) (S' := S) (show jm_fe 58 2 = some (jk_callV 55 1 9) from rfl) rfl hc h8
theorem r_M_isValue_5 : je X 58 5 L (.inl p :: S) σ = if p = 0 then je X 58 45 L S σ else je X 58 8 L S σ := je_if_eq (show jm_fe 58 5 = some (jk_if .eq 45) from rfl)
theorem r_M_isValue_8 : je X 58 8 [l0, l1, l2, some (.inl x)] S σ = je X 58 9 [l0, l1, l2, some (.inl x)] (.inl x :: S) σ := je_iload (show jm_fe 58 8 = some (jk_iload 3 1) from rfl) rfl
theorem r_M_isValue_9 : je X 58 9 L (.inl p :: S) σ = if p < 0 then je X 58 45 L S σ else je X 58 12 L S σ := je_if_lt (show jm_fe 58 9 = some (jk_if .lt 45) from rfl)
theorem r_M_isValue_12 : je X 58 12 [l0, l1, l2, some (.inl x)] S σ = je X 58 13 [l0, l1, l2, some (.inl x)] (.inl x :: S) σ := je_iload (show jm_fe 58 12 = some (jk_iload 3 1) from rfl) rfl
theorem r_M_isValue_13 : je X 58 13 [some (.inr r), l1, l2, l3] S σ = je X 58 14 [some (.inr r), l1, l2, l3] (.inr r :: S) σ := je_aload (show jm_fe 58 13 = some (jk_aload 0 1) from rfl) rfl
theorem r_M_isValue_14 : je X 58 14 [some (.inr r), l1, l2, l3] S σ = je X 58 15 [some (.inr r), l1, l2, l3] (.inr r :: S) σ := je_aload (show jm_fe 58 14 = some (jk_aload 0 1) from rfl) rfl
theorem r_M_isValue_15 : je X 58 15 [l0, some (.inl x), l2, l3] S σ = je X 58 16 [l0, some (.inl x), l2, l3] (.inl x :: S) σ := je_iload (show jm_fe 58 15 = some (jk_iload 1 1) from rfl) rfl
theorem r_M_isValue_16 (hc : jm_cl σ.1 a = some 9) (h8 : S.length ≤ 8) : je X 58 16 L (v0 :: .inr (.inl (some a)) :: S) σ = je_c X 58 19 L S (je X 55 0 [some (.inr (.inl (some a))), some v0] [] σ) := je_callV (as := [v0]) (S' := S) (show jm_fe 58 16 = some (jk_callV 55 1 9) from rfl) rfl hc h8
theorem r_M_isValue_19 : je X 58 19 L (.inl p :: S) σ = if p = 0 then je X 58 33 L S σ else je X 58 22 L S σ := je_if_eq (show jm_fe 58 19 = some (jk_if .eq 33) from rfl)
theorem r_M_isValue_22 : je X 58 22 [some (.inr r), l1, l2, l3] S σ = je X 58 23 [some (.inr r), l1, l2, l3] (.inr r :: S) σ := je_aload (show jm_fe 58 22 = some (jk_aload 0 1) from rfl) rfl
theorem r_M_isValue_23 : je X 58 23 L (.inr (.inl (some a)) :: S) σ = je_v X 58 26 L S σ (jm_gf σ.1 a 9 22) := je_getf (show jm_fe 58 23 = some (jk_getf 9 22) from rfl)
theorem r_M_isValue_26 : je X 58 26 L S σ = je X 58 27 L (.inl 1 :: S) σ := je_const (show jm_fe 58 26 = some (jk_const 1 1) from rfl)
theorem r_M_isValue_27 : je X 58 27 L (.inl q :: .inl p :: S) σ = je X 58 28 L (.inl (p - q) :: S) σ := je_bin (show jm_fe 58 27 = some (jb_isub) from rfl)
theorem r_M_isValue_28 : je X 58 28 [l0, some (.inl x), l2, l3] S σ = je X 58 29 [l0, some (.inl x), l2, l3] (.inl x :: S) σ := je_iload (show jm_fe 58 28 = some (jk_iload 1 1) from rfl) rfl
theorem r_M_isValue_29 : je X 58 29 L (.inl q :: .inl p :: S) σ = je X 58 30 L (.inl (p - q) :: S) σ := je_bin (show jm_fe 58 29 = some (jb_isub) from rfl)
theorem r_M_isValue_30 : je X 58 30 L S σ = je X 58 34 L S σ := je_goto (show jm_fe 58 30 = some (jk_goto 34) from rfl)
theorem r_M_isValue_33 : je X 58 33 L S σ = je X 58 34 L (.inl 0 :: S) σ := je_const (show jm_fe 58 33 = some (jk_const 0 1) from rfl)
theorem r_M_isValue_34 : je X 58 34 [l0, l1, some (.inl x), l3] S σ = je X 58 35 [l0, l1, some (.inl x), l3] (.inl x :: S) σ := je_iload (show jm_fe 58 34 = some (jk_iload 2 1) from rfl) rfl
theorem r_M_isValue_35 (hc : jm_cl σ.1 a = some 9) (h8 : S.length ≤ 8) : je X 58 35 L (v1 :: v0 :: .inr (.inl (some a)) :: S) σ = je_c X 58 38 L S (je X 57 0 [some (.inr (.inl (some a))), some v0, some v1] [] σ) := je_callV (as := [v0, v1]) (S' := S) (show jm_fe 58 35 = some (jk_callV 57 2 9) from rfl) rfl hc h8
theorem r_M_isValue_38 : je X 58 38 L (.inl q :: .inl p :: S) σ = if q ≤ p then je X 58 45 L S σ else je X 58 41 L S σ := je_icmp_ge (show jm_fe 58 38 = some (jk_icmp .ge 45) from rfl)
theorem r_M_isValue_41 : je X 58 41 L S σ = je X 58 42 L (.inl 1 :: S) σ := je_const (show jm_fe 58 41 = some (jk_const 1 1) from rfl)
theorem r_M_isValue_42 : je X 58 42 L S σ = je X 58 46 L S σ := je_goto (show jm_fe 58 42 = some (jk_goto 46) from rfl)
theorem r_M_isValue_45 : je X 58 45 L S σ = je X 58 46 L (.inl 0 :: S) σ := je_const (show jm_fe 58 45 = some (jk_const 0 1) from rfl)
theorem r_M_isValue_46 (hx : p = 0 ∨ p = 1) : je X 58 46 L [.inl p] σ = some (some (.inl p), σ) := je_zret (show jm_fe 58 46 = some (jk_zret) from rfl) hx
theorem r_M_kind_0 : je X 59 0 [some (.inr r), l1, l2, l3, l4] S σ = je X 59 1 [some (.inr r), l1, l2, l3, l4] (.inr r :: S) σ := je_aload (show jm_fe 59 0 = some (jk_aload 0 1) from rfl) rfl
theorem r_M_kind_1 : je X 59 1 L S σ = je X 59 2 L (.inl 0 :: S) σ := je_const (show jm_fe 59 1 = some (jk_const 0 1) from rfl)
theorem r_M_kind_2 : je X 59 2 L (v :: .inr (.inl (some a)) :: S) σ = je_h X 59 5 L S σ.2 (jm_pf σ.1 a 9 0 0 v) := je_putf (show jm_fe 59 2 = some (jk_putf 9 0 0) from rfl)
theorem r_M_kind_5 : je X 59 5 [some (.inr r), l1, l2, l3, l4] S σ = je X 59 6 [some (.inr r), l1, l2, l3, l4] (.inr r :: S) σ := je_aload (show jm_fe 59 5 = some (jk_aload 0 1) from rfl) rfl
theorem r_M_kind_6 : je X 59 6 [l0, some (.inl x), l2, l3, l4] S σ = je X 59 7 [l0, some (.inl x), l2, l3, l4] (.inl x :: S) σ := je_iload (show jm_fe 59 6 = some (jk_iload 1 1) from rfl) rfl
theorem r_M_kind_7 : je X 59 7 [l0, l1, some (.inl x), l3, l4] S σ = je X 59 8 [l0, l1, some (.inl x), l3, l4] (.inl x :: S) σ := je_iload (show jm_fe 59 7 = some (jk_iload 2 1) from rfl) rfl
theorem r_M_kind_8 : je X 59 8 [l0, l1, l2, some (.inl x), l4] S σ = je X 59 9 [l0, l1, l2, some (.inl x), l4] (.inl x :: S) σ := je_iload (show jm_fe 59 8 = some (jk_iload 3 1) from rfl) rfl
theorem r_M_kind_9 (hc : jm_cl σ.1 a = some 9) (h8 : S.length ≤ 8) : je X 59 9 L (v2 :: v1 :: v0 :: .inr (.inl (some a)) :: S) σ = je_c X 59 12 L S (je X 58 0 [some (.inr (.inl (some a))), some v0, some v1, some v2] [] σ) := je_callV (as := [v0, v1, v2]) (S' := S) (show jm_fe 59 9 = some (jk_callV 58 3 9) from rfl) rfl hc h8
theorem r_M_kind_12 : je X 59 12 L (.inl p :: S) σ = if p = 0 then je X 59 15 L S σ else je X 59 17 L S σ := je_if_ne (show jm_fe 59 12 = some (jk_if .ne 17) from rfl)
theorem r_M_kind_15 : je X 59 15 L S σ = je X 59 16 L (.inl (-1) :: S) σ := je_const (show jm_fe 59 15 = some (jk_const (-1) 1) from rfl)
theorem r_M_kind_16 : je X 59 16 L [.inl p] σ = some (some (.inl p), σ) := je_iret (show jm_fe 59 16 = some (jk_iret) from rfl)
theorem r_M_kind_17 : je X 59 17 [some (.inr r), l1, l2, l3, l4] S σ = je X 59 18 [some (.inr r), l1, l2, l3, l4] (.inr r :: S) σ := je_aload (show jm_fe 59 17 = some (jk_aload 0 1) from rfl) rfl
theorem r_M_kind_18 : je X 59 18 L (.inr (.inl (some a)) :: S) σ = je_v X 59 21 L S σ (jm_gf σ.1 a 9 22) := je_getf (show jm_fe 59 18 = some (jk_getf 9 22) from rfl)
theorem r_M_kind_21 : je X 59 21 L S σ = je X 59 22 L (.inl 1 :: S) σ := je_const (show jm_fe 59 21 = some (jk_const 1 1) from rfl)
theorem r_M_kind_22 : je X 59 22 L (.inl q :: .inl p :: S) σ = je X 59 23 L (.inl (p - q) :: S) σ := je_bin (show jm_fe 59 22 = some (jb_isub) from rfl)
theorem r_M_kind_23 : je X 59 23 [l0, some (.inl x), l2, l3, l4] S σ = je X 59 24 [l0, some (.inl x), l2, l3, l4] (.inl x :: S) σ := je_iload (show jm_fe 59 23 = some (jk_iload 1 1) from rfl) rfl
theorem r_M_kind_24 : je X 59 24 L (.inl q :: .inl p :: S) σ = je X 59 25 L (.inl (p - q) :: S) σ := je_bin (show jm_fe 59 24 = some (jb_isub) from rfl)
theorem r_M_kind_25 : je X 59 25 [l0, l1, l2, l3, l4] (.inl x :: S) σ = je X 59 27 [l0, l1, l2, l3, some (.inl x)] S σ := je_istore (show jm_fe 59 25 = some (jk_istore 4 2) from rfl) (Nat.le_of_ble_eq_true rfl)
theorem r_M_kind_27 : je X 59 27 [l0, l1, some (.inl x), l3, l4] S σ = je X 59 28 [l0, l1, some (.inl x), l3, l4] (.inl x :: S) σ := je_iload (show jm_fe 59 27 = some (jk_iload 2 1) from rfl) rfl
theorem r_M_kind_28 : je X 59 28 L (.inl p :: S) σ = if p = 0 then je X 59 46 L S σ else je X 59 31 L S σ := je_if_eq (show jm_fe 59 28 = some (jk_if .eq 46) from rfl)
theorem r_M_kind_31 : je X 59 31 [some (.inr r), l1, l2, l3, l4] S σ = je X 59 32 [some (.inr r), l1, l2, l3, l4] (.inr r :: S) σ := je_aload (show jm_fe 59 31 = some (jk_aload 0 1) from rfl) rfl
theorem r_M_kind_32 : je X 59 32 L (.inr (.inl (some a)) :: S) σ = je_v X 59 35 L S σ (jm_gf σ.1 a 9 29) := je_getf (show jm_fe 59 32 = some (jk_getf 9 29) from rfl)
theorem r_M_kind_35 : je X 59 35 L S σ = je X 59 37 L (.inl 8 :: S) σ := je_const (show jm_fe 59 35 = some (jk_const (8) 2) from rfl)
theorem r_M_kind_37 : je X 59 37 [l0, l1, l2, l3, some (.inl x)] S σ = je X 59 39 [l0, l1, l2, l3, some (.inl x)] (.inl x :: S) σ := je_iload (show jm_fe 59 37 = some (jk_iload 4 2) from rfl) rfl
theorem r_M_kind_39 : je X 59 39 L (.inl q :: .inl p :: S) σ = je X 59 40 L (.inl (p * q) :: S) σ := je_bin (show jm_fe 59 39 = some (jb_imul) from rfl)
theorem r_M_kind_40 : je X 59 40 [l0, l1, l2, some (.inl x), l4] S σ = je X 59 41 [l0, l1, l2, some (.inl x), l4] (.inl x :: S) σ := je_iload (show jm_fe 59 40 = some (jk_iload 3 1) from rfl) rfl
theorem r_M_kind_41 : je X 59 41 L (.inl q :: .inl p :: S) σ = je X 59 42 L (.inl (p + q) :: S) σ := je_bin (show jm_fe 59 41 = some (jb_iadd) from rfl)
theorem r_M_kind_42 : je X 59 42 L (.inl p :: .inr (.inl (some a)) :: S) σ = je_i X 59 43 L S σ (jm_al σ.1 a 0 p) := je_ald (show jm_fe 59 42 = some (jk_ald 0) from rfl)
theorem r_M_kind_43 : je X 59 43 L S σ = je X 59 58 L S σ := je_goto (show jm_fe 59 43 = some (jk_goto 58) from rfl)
theorem r_M_kind_46 : je X 59 46 [some (.inr r), l1, l2, l3, l4] S σ = je X 59 47 [some (.inr r), l1, l2, l3, l4] (.inr r :: S) σ := je_aload (show jm_fe 59 46 = some (jk_aload 0 1) from rfl) rfl
theorem r_M_kind_47 : je X 59 47 L (.inr (.inl (some a)) :: S) σ = je_v X 59 50 L S σ (jm_gf σ.1 a 9 27) := je_getf (show jm_fe 59 47 = some (jk_getf 9 27) from rfl)
theorem r_M_kind_50 : je X 59 50 L S σ = je X 59 52 L (.inl 16 :: S) σ := je_const (show jm_fe 59 50 = some (jk_const (16) 2) from rfl)
theorem r_M_kind_52 : je X 59 52 [l0, l1, l2, l3, some (.inl x)] S σ = je X 59 54 [l0, l1, l2, l3, some (.inl x)] (.inl x :: S) σ := je_iload (show jm_fe 59 52 = some (jk_iload 4 2) from rfl) rfl
theorem r_M_kind_54 : je X 59 54 L (.inl q :: .inl p :: S) σ = je X 59 55 L (.inl (p * q) :: S) σ := je_bin (show jm_fe 59 54 = some (jb_imul) from rfl)
theorem r_M_kind_55 : je X 59 55 [l0, l1, l2, some (.inl x), l4] S σ = je X 59 56 [l0, l1, l2, some (.inl x), l4] (.inl x :: S) σ := je_iload (show jm_fe 59 55 = some (jk_iload 3 1) from rfl) rfl
theorem r_M_kind_56 : je X 59 56 L (.inl q :: .inl p :: S) σ = je X 59 57 L (.inl (p + q) :: S) σ := je_bin (show jm_fe 59 56 = some (jb_iadd) from rfl)
theorem r_M_kind_57 : je X 59 57 L (.inl p :: .inr (.inl (some a)) :: S) σ = je_i X 59 58 L S σ (jm_al σ.1 a 0 p) := je_ald (show jm_fe 59 57 = some (jk_ald 0) from rfl)
theorem r_M_kind_58 : je X 59 58 L [.inl p] σ = some (some (.inl p), σ) := je_iret (show jm_fe 59 58 = some (jk_iret) from rfl)
theorem r_M_value_0 : je X 60 0 [some (.inr r), l1, l2, l3, l4, l5] S σ = je X 60 1 [some (.inr r), l1, l2, l3, l4, l5] (.inr r :: S) σ := je_aload (show jm_fe 60 0 = some (jk_aload 0 1) from rfl) rfl
theorem r_M_value_1 : je X 60 1 L S σ = je X 60 2 L (.inl 0 :: S) σ := je_const (show jm_fe 60 1 = some (jk_const 0 1) from rfl)
theorem r_M_value_2 : je X 60 2 L (v :: .inr (.inl (some a)) :: S) σ = je_h X 60 5 L S σ.2 (jm_pf σ.1 a 9 0 0 v) := je_putf (show jm_fe 60 2 = some (jk_putf 9 0 0) from rfl)
theorem r_M_value_5 : je X 60 5 [some (.inr r), l1, l2, l3, l4, l5] S σ = je X 60 6 [some (.inr r), l1, l2, l3, l4, l5] (.inr r :: S) σ := je_aload (show jm_fe 60 5 = some (jk_aload 0 1) from rfl) rfl
theorem r_M_value_6 : je X 60 6 [l0, some (.inl x), l2, l3, l4, l5] S σ = je X 60 7 [l0, some (.inl x), l2, l3, l4, l5] (.inl x :: S) σ := je_iload (show jm_fe 60 6 = some (jk_iload 1 1) from rfl) rfl
theorem r_M_value_7 : je X 60 7 [l0, l1, some (.inl x), l3, l4, l5] S σ = je X 60 8 [l0, l1, some (.inl x), l3, l4, l5] (.inl x :: S) σ := je_iload (show jm_fe 60 7 = some (jk_iload 2 1) from rfl) rfl
theorem r_M_value_8 : je X 60 8 [l0, l1, l2, some (.inl x), l4, l5] S σ = je X 60 9 [l0, l1, l2, some (.inl x), l4, l5] (.inl x :: S) σ := je_iload (show jm_fe 60 8 = some (jk_iload 3 1) from rfl) rfl
theorem r_M_value_9 (hc : jm_cl σ.1 a = some 9) (h8 : S.length ≤ 8) : je X 60 9 L (v2 :: v1 :: v0 :: .inr (.inl (some a)) :: S) σ = je_c X 60 12 L S (je X 58 0 [some (.inr (.inl (some a))), some v0, some v1, some v2] [] σ) := je_callV (as := [v0, v1, v2]) (S' := S) (show jm_fe 60 9 = some (jk_callV 58 3 9) from rfl) rfl hc h8
theorem r_M_value_12 : je X 60 12 L (.inl p :: S) σ = if p = 0 then je X 60 15 L S σ else je X 60 17 L S σ := je_if_ne (show jm_fe 60 12 = some (jk_if .ne 17) from rfl)
theorem r_M_value_15 : je X 60 15 L S σ = je X 60 16 L (.inl 0 :: S) σ := je_const (show jm_fe 60 15 = some (jk_const 0 1) from rfl)
theorem r_M_value_16 : je X 60 16 L [.inl p] σ = some (some (.inl p), σ) := je_iret (show jm_fe 60 16 = some (jk_iret) from rfl)
theorem r_M_value_17 : je X 60 17 [some (.inr r), l1, l2, l3, l4, l5] S σ = je X 60 18 [some (.inr r), l1, l2, l3, l4, l5] (.inr r :: S) σ := je_aload (show jm_fe 60 17 = some (jk_aload 0 1) from rfl) rfl
theorem r_M_value_18 : je X 60 18 L (.inr (.inl (some a)) :: S) σ = je_v X 60 21 L S σ (jm_gf σ.1 a 9 22) := je_getf (show jm_fe 60 18 = some (jk_getf 9 22) from rfl)
theorem r_M_value_21 : je X 60 21 L S σ = je X 60 22 L (.inl 1 :: S) σ := je_const (show jm_fe 60 21 = some (jk_const 1 1) from rfl)
theorem r_M_value_22 : je X 60 22 L (.inl q :: .inl p :: S) σ = je X 60 23 L (.inl (p - q) :: S) σ := je_bin (show jm_fe 60 22 = some (jb_isub) from rfl)
theorem r_M_value_23 : je X 60 23 [l0, some (.inl x), l2, l3, l4, l5] S σ = je X 60 24 [l0, some (.inl x), l2, l3, l4, l5] (.inl x :: S) σ := je_iload (show jm_fe 60 23 = some (jk_iload 1 1) from rfl) rfl
theorem r_M_value_24 : je X 60 24 L (.inl q :: .inl p :: S) σ = je X 60 25 L (.inl (p - q) :: S) σ := je_bin (show jm_fe 60 24 = some (jb_isub) from rfl)
theorem r_M_value_25 : je X 60 25 [l0, l1, l2, l3, l4, l5] (.inl x :: S) σ = je X 60 27 [l0, l1, l2, l3, some (.inl x), l5] S σ := je_istore (show jm_fe 60 25 = some (jk_istore 4 2) from rfl) (Nat.le_of_ble_eq_true rfl)
theorem r_M_value_27 : je X 60 27 [l0, l1, some (.inl x), l3, l4, l5] S σ = je X 60 28 [l0, l1, some (.inl x), l3, l4, l5] (.inl x :: S) σ := je_iload (show jm_fe 60 27 = some (jk_iload 2 1) from rfl) rfl
theorem r_M_value_28 : je X 60 28 L (.inl p :: S) σ = if p = 0 then je X 60 46 L S σ else je X 60 31 L S σ := je_if_eq (show jm_fe 60 28 = some (jk_if .eq 46) from rfl)
theorem r_M_value_31 : je X 60 31 [some (.inr r), l1, l2, l3, l4, l5] S σ = je X 60 32 [some (.inr r), l1, l2, l3, l4, l5] (.inr r :: S) σ := je_aload (show jm_fe 60 31 = some (jk_aload 0 1) from rfl) rfl
theorem r_M_value_32 : je X 60 32 L (.inr (.inl (some a)) :: S) σ = je_v X 60 35 L S σ (jm_gf σ.1 a 9 29) := je_getf (show jm_fe 60 32 = some (jk_getf 9 29) from rfl)
theorem r_M_value_35 : je X 60 35 L S σ = je X 60 37 L (.inl 8 :: S) σ := je_const (show jm_fe 60 35 = some (jk_const (8) 2) from rfl)
theorem r_M_value_37 : je X 60 37 [l0, l1, l2, l3, some (.inl x), l5] S σ = je X 60 39 [l0, l1, l2, l3, some (.inl x), l5] (.inl x :: S) σ := je_iload (show jm_fe 60 37 = some (jk_iload 4 2) from rfl) rfl
theorem r_M_value_39 : je X 60 39 L (.inl q :: .inl p :: S) σ = je X 60 40 L (.inl (p * q) :: S) σ := je_bin (show jm_fe 60 39 = some (jb_imul) from rfl)
theorem r_M_value_40 : je X 60 40 [l0, l1, l2, some (.inl x), l4, l5] S σ = je X 60 41 [l0, l1, l2, some (.inl x), l4, l5] (.inl x :: S) σ := je_iload (show jm_fe 60 40 = some (jk_iload 3 1) from rfl) rfl
theorem r_M_value_41 : je X 60 41 L (.inl q :: .inl p :: S) σ = je X 60 42 L (.inl (p + q) :: S) σ := je_bin (show jm_fe 60 41 = some (jb_iadd) from rfl)
theorem r_M_value_42 : je X 60 42 L (.inl p :: .inr (.inl (some a)) :: S) σ = je_i X 60 43 L S σ (jm_al σ.1 a 0 p) := je_ald (show jm_fe 60 42 = some (jk_ald 0) from rfl)
theorem r_M_value_43 : je X 60 43 L S σ = je X 60 58 L S σ := je_goto (show jm_fe 60 43 = some (jk_goto 58) from rfl)
theorem r_M_value_46 : je X 60 46 [some (.inr r), l1, l2, l3, l4, l5] S σ = je X 60 47 [some (.inr r), l1, l2, l3, l4, l5] (.inr r :: S) σ := je_aload (show jm_fe 60 46 = some (jk_aload 0 1) from rfl) rfl
theorem r_M_value_47 : je X 60 47 L (.inr (.inl (some a)) :: S) σ = je_v X 60 50 L S σ (jm_gf σ.1 a 9 27) := je_getf (show jm_fe 60 47 = some (jk_getf 9 27) from rfl)
theorem r_M_value_50 : je X 60 50 L S σ = je X 60 52 L (.inl 16 :: S) σ := je_const (show jm_fe 60 50 = some (jk_const (16) 2) from rfl)
theorem r_M_value_52 : je X 60 52 [l0, l1, l2, l3, some (.inl x), l5] S σ = je X 60 54 [l0, l1, l2, l3, some (.inl x), l5] (.inl x :: S) σ := je_iload (show jm_fe 60 52 = some (jk_iload 4 2) from rfl) rfl
theorem r_M_value_54 : je X 60 54 L (.inl q :: .inl p :: S) σ = je X 60 55 L (.inl (p * q) :: S) σ := je_bin (show jm_fe 60 54 = some (jb_imul) from rfl)
theorem r_M_value_55 : je X 60 55 [l0, l1, l2, some (.inl x), l4, l5] S σ = je X 60 56 [l0, l1, l2, some (.inl x), l4, l5] (.inl x :: S) σ := je_iload (show jm_fe 60 55 = some (jk_iload 3 1) from rfl) rfl
theorem r_M_value_56 : je X 60 56 L (.inl q :: .inl p :: S) σ = je X 60 57 L (.inl (p + q) :: S) σ := je_bin (show jm_fe 60 56 = some (jb_iadd) from rfl)
theorem r_M_value_57 : je X 60 57 L (.inl p :: .inr (.inl (some a)) :: S) σ = je_i X 60 58 L S σ (jm_al σ.1 a 0 p) := je_ald (show jm_fe 60 57 = some (jk_ald 0) from rfl)
theorem r_M_value_58 : je X 60 58 [l0, l1, l2, l3, l4, l5] (.inl x :: S) σ = je X 60 60 [l0, l1, l2, l3, l4, some (.inl x)] S σ := je_istore (show jm_fe 60 58 = some (jk_istore 5 2) from rfl) (Nat.le_of_ble_eq_true rfl)
theorem r_M_value_60 : je X 60 60 [l0, l1, l2, l3, l4, some (.inl x)] S σ = je X 60 62 [l0, l1, l2, l3, l4, some (.inl x)] (.inl x :: S) σ := je_iload (show jm_fe 60 60 = some (jk_iload 5 2) from rfl) rfl
theorem r_M_value_62 : je X 60 62 L (.inl p :: S) σ = if p ≤ 0 then je X 60 75 L S σ else je X 60 65 L S σ := je_if_le (show jm_fe 60 62 = some (jk_if .le 75) from rfl)
theorem r_M_value_65 : je X 60 65 [some (.inr r), l1, l2, l3, l4, l5] S σ = je X 60 66 [some (.inr r), l1, l2, l3, l4, l5] (.inr r :: S) σ := je_aload (show jm_fe 60 65 = some (jk_aload 0 1) from rfl) rfl
theorem r_M_value_66 : je X 60 66 L (.inr (.inl (some a)) :: S) σ = je_v X 60 69 L S σ (jm_gf σ.1 a 9 33) := je_getf (show jm_fe 60 66 = some (jk_getf 9 33) from rfl)
theorem r_M_value_69 : je X 60 69 [l0, l1, l2, l3, l4, some (.inl x)] S σ = je X 60 71 [l0, l1, l2, l3, l4, some (.inl x)] (.inl x :: S) σ := je_iload (show jm_fe 60 69 = some (jk_iload 5 2) from rfl) rfl
theorem r_M_value_71 : je X 60 71 L (.inl p :: .inr (.inl (some a)) :: S) σ = je_i X 60 72 L S σ (jm_al σ.1 a 0 p) := je_ald (show jm_fe 60 71 = some (jk_ald 0) from rfl)
theorem r_M_value_72 : je X 60 72 L S σ = je X 60 106 L S σ := je_goto (show jm_fe 60 72 = some (jk_goto 106) from rfl)
theorem r_M_value_75 : je X 60 75 [l0, l1, some (.inl x), l3, l4, l5] S σ = je X 60 76 [l0, l1, some (.inl x), l3, l4, l5] (.inl x :: S) σ := je_iload (show jm_fe 60 75 = some (jk_iload 2 1) from rfl) rfl
theorem r_M_value_76 : je X 60 76 L (.inl p :: S) σ = if p = 0 then je X 60 94 L S σ else je X 60 79 L S σ := je_if_eq (show jm_fe 60 76 = some (jk_if .eq 94) from rfl)
theorem r_M_value_79 : je X 60 79 [some (.inr r), l1, l2, l3, l4, l5] S σ = je X 60 80 [some (.inr r), l1, l2, l3, l4, l5] (.inr r :: S) σ := je_aload (show jm_fe 60 79 = some (jk_aload 0 1) from rfl) rfl
theorem r_M_value_80 : je X 60 80 L (.inr (.inl (some a)) :: S) σ = je_v X 60 83 L S σ (jm_gf σ.1 a 9 28) := je_getf (show jm_fe 60 80 = some (jk_getf 9 28) from rfl)
theorem r_M_value_83 : je X 60 83 L S σ = je X 60 85 L (.inl 8 :: S) σ := je_const (show jm_fe 60 83 = some (jk_const (8) 2) from rfl)
theorem r_M_value_85 : je X 60 85 [l0, l1, l2, l3, some (.inl x), l5] S σ = je X 60 87 [l0, l1, l2, l3, some (.inl x), l5] (.inl x :: S) σ := je_iload (show jm_fe 60 85 = some (jk_iload 4 2) from rfl) rfl
theorem r_M_value_87 : je X 60 87 L (.inl q :: .inl p :: S) σ = je X 60 88 L (.inl (p * q) :: S) σ := je_bin (show jm_fe 60 87 = some (jb_imul) from rfl)
theorem r_M_value_88 : je X 60 88 [l0, l1, l2, some (.inl x), l4, l5] S σ = je X 60 89 [l0, l1, l2, some (.inl x), l4, l5] (.inl x :: S) σ := je_iload (show jm_fe 60 88 = some (jk_iload 3 1) from rfl) rfl
theorem r_M_value_89 : je X 60 89 L (.inl q :: .inl p :: S) σ = je X 60 90 L (.inl (p + q) :: S) σ := je_bin (show jm_fe 60 89 = some (jb_iadd) from rfl)
theorem r_M_value_90 : je X 60 90 L (.inl p :: .inr (.inl (some a)) :: S) σ = je_i X 60 91 L S σ (jm_al σ.1 a 0 p) := je_ald (show jm_fe 60 90 = some (jk_ald 0) from rfl)
theorem r_M_value_91 : je X 60 91 L S σ = je X 60 106 L S σ := je_goto (show jm_fe 60 91 = some (jk_goto 106) from rfl)
theorem r_M_value_94 : je X 60 94 [some (.inr r), l1, l2, l3, l4, l5] S σ = je X 60 95 [some (.inr r), l1, l2, l3, l4, l5] (.inr r :: S) σ := je_aload (show jm_fe 60 94 = some (jk_aload 0 1) from rfl) rfl
theorem r_M_value_95 : je X 60 95 L (.inr (.inl (some a)) :: S) σ = je_v X 60 98 L S σ (jm_gf σ.1 a 9 26) := je_getf (show jm_fe 60 95 = some (jk_getf 9 26) from rfl)
theorem r_M_value_98 : je X 60 98 L S σ = je X 60 100 L (.inl 16 :: S) σ := je_const (show jm_fe 60 98 = some (jk_const (16) 2) from rfl)
theorem r_M_value_100 : je X 60 100 [l0, l1, l2, l3, some (.inl x), l5] S σ = je X 60 102 [l0, l1, l2, l3, some (.inl x), l5] (.inl x :: S) σ := je_iload (show jm_fe 60 100 = some (jk_iload 4 2) from rfl) rfl
theorem r_M_value_102 : je X 60 102 L (.inl q :: .inl p :: S) σ = je X 60 103 L (.inl (p * q) :: S) σ := je_bin (show jm_fe 60 102 = some (jb_imul) from rfl)
theorem r_M_value_103 : je X 60 103 [l0, l1, l2, some (.inl x), l4, l5] S σ = je X 60 104 [l0, l1, l2, some (.inl x), l4, l5] (.inl x :: S) σ := je_iload (show jm_fe 60 103 = some (jk_iload 3 1) from rfl) rfl
theorem r_M_value_104 : je X 60 104 L (.inl q :: .inl p :: S) σ = je X 60 105 L (.inl (p + q) :: S) σ := je_bin (show jm_fe 60 104 = some (jb_iadd) from rfl)
theorem r_M_value_105 : je X 60 105 L (.inl p :: .inr (.inl (some a)) :: S) σ = je_i X 60 106 L S σ (jm_al σ.1 a 0 p) := je_ald (show jm_fe 60 105 = some (jk_ald 0) from rfl)
theorem r_M_value_106 : je X 60 106 L [.inl p] σ = some (some (.inl p), σ) := je_iret (show jm_fe 60 106 = some (jk_iret) from rfl)
end JR
