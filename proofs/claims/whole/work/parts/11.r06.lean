section JR
variable {X : jm_X} {L : jm_L} {S : List jm_V} {σ : jm_S} {l0 l1 l2 l3 l4 l5 l6 l7 : Option jm_V} {x p q : Int32} {a : Nat} {r : Option Nat ⊕ Unit} {o : Option Nat} {u : Unit} {v w v0 v1 v2 v3 v4 v5 : jm_V}
theorem r_Run_combine_0 : je X 128 0 [some (.inl x), l1, l2] S σ = je X 128 1 [some (.inl x), l1, l2] (.inl x :: S) σ := je_iload (show jm_fe 128 0 = some (jk_iload 0 1) from rfl) rfl
theorem r_Run_combine_1 : je X 128 1 L (.inl p :: S) σ = je X 128 (jm_sw [(6, 64), (7, 68), (8, 72), (9, 76), (10, 88), (11, 100), (12, 104), (13, 108), (14, 112), (15, 116), (16, 120), (17, 131)] 142 p) L S σ := je_sw (show jm_fe 128 1 = some (jk_sw [(6, 64), (7, 68), (8, 72), (9, 76), (10, 88), (11, 100), (12, 104), (13, 108), (14, 112), (15, 116), (16, 120), (17, 131)] 142) from rfl)
theorem r_Run_combine_64 : je X 128 64 [l0, some (.inl x), l2] S σ = je X 128 65 [l0, some (.inl x), l2] (.inl x :: S) σ := je_iload (show jm_fe 128 64 = some (jk_iload 1 1) from rfl) rfl
set_option maxRecDepth 20000 in
theorem r_Run_combine_65 : je X 128 65 [l0, l1, some (.inl x)] S σ = je X 128 66 [l0, l1, some (.inl x)] (.inl x :: S) σ := je_iload (show jm_fe 128 65 = some (jk_iload 2 1) from rfl) rfl
set_option maxRecDepth 20000 in
theorem r_Run_combine_66 : je X 128 66 L (.inl q :: .inl p :: S) σ = je X 128 67 L (.inl (p + q) :: S) σ := je_bin (show jm_fe 128 66 = some (jb_iadd) from rfl)
set_option maxRecDepth 20000 in
theorem r_Run_combine_67 : je X 128 67 L [.inl p] σ = some (some (.inl p), σ) := je_iret (show jm_fe 128 67 = some (jk_iret) from rfl)
set_option maxRecDepth 20000 in
theorem r_Run_combine_68 : je X 128 68 [l0, some (.inl x), l2] S σ = je X 128 69 [l0, some (.inl x), l2] (.inl x :: S) σ := je_iload (show jm_fe 128 68 = some (jk_iload 1 1) from rfl) rfl
set_option maxRecDepth 20000 in
theorem r_Run_combine_69 : je X 128 69 [l0, l1, some (.inl x)] S σ = je X 128 70 [l0, l1, some (.inl x)] (.inl x :: S) σ := je_iload (show jm_fe 128 69 = some (jk_iload 2 1) from rfl) rfl
set_option maxRecDepth 20000 in
theorem r_Run_combine_70 : je X 128 70 L (.inl q :: .inl p :: S) σ = je X 128 71 L (.inl (p - q) :: S) σ := je_bin (show jm_fe 128 70 = some (jb_isub) from rfl)
set_option maxRecDepth 20000 in
theorem r_Run_combine_71 : je X 128 71 L [.inl p] σ = some (some (.inl p), σ) := je_iret (show jm_fe 128 71 = some (jk_iret) from rfl)
set_option maxRecDepth 20000 in
theorem r_Run_combine_72 : je X 128 72 [l0, some (.inl x), l2] S σ = je X 128 73 [l0, some (.inl x), l2] (.inl x :: S) σ := je_iload (show jm_fe 128 72 = some (jk_iload 1 1) from rfl) rfl
set_option maxRecDepth 20000 in
theorem r_Run_combine_73 : je X 128 73 [l0, l1, some (.inl x)] S σ = je X 128 74 [l0, l1, some (.inl x)] (.inl x :: S) σ := je_iload (show jm_fe 128 73 = some (jk_iload 2 1) from rfl) rfl
set_option maxRecDepth 20000 in
theorem r_Run_combine_74 : je X 128 74 L (.inl q :: .inl p :: S) σ = je X 128 75 L (.inl (p * q) :: S) σ := je_bin (show jm_fe 128 74 = some (jb_imul) from rfl)
set_option maxRecDepth 20000 in
theorem r_Run_combine_75 : je X 128 75 L [.inl p] σ = some (some (.inl p), σ) := je_iret (show jm_fe 128 75 = some (jk_iret) from rfl)
set_option maxRecDepth 20000 in
theorem r_Run_combine_76 : je X 128 76 [l0, l1, some (.inl x)] S σ = je X 128 77 [l0, l1, some (.inl x)] (.inl x :: S) σ := je_iload (show jm_fe 128 76 = some (jk_iload 2 1) from rfl) rfl
set_option maxRecDepth 20000 in
theorem r_Run_combine_77 : je X 128 77 L (.inl p :: S) σ = if p = 0 then je X 128 80 L S σ else je X 128 84 L S σ := je_if_ne (show jm_fe 128 77 = some (jk_if .ne 84) from rfl)
set_option maxRecDepth 20000 in
theorem r_Run_combine_80 : je X 128 80 L S σ = je X 128 81 L (.inl 0 :: S) σ := je_const (show jm_fe 128 80 = some (jk_const 0 1) from rfl)
set_option maxRecDepth 20000 in
theorem r_Run_combine_81 : je X 128 81 L S σ = je X 128 87 L S σ := je_goto (show jm_fe 128 81 = some (jk_goto 87) from rfl)
set_option maxRecDepth 20000 in
theorem r_Run_combine_84 : je X 128 84 [l0, some (.inl x), l2] S σ = je X 128 85 [l0, some (.inl x), l2] (.inl x :: S) σ := je_iload (show jm_fe 128 84 = some (jk_iload 1 1) from rfl) rfl
set_option maxRecDepth 20000 in
theorem r_Run_combine_85 : je X 128 85 [l0, l1, some (.inl x)] S σ = je X 128 86 [l0, l1, some (.inl x)] (.inl x :: S) σ := je_iload (show jm_fe 128 85 = some (jk_iload 2 1) from rfl) rfl
set_option maxRecDepth 20000 in
theorem r_Run_combine_86 : je X 128 86 L (.inl q :: .inl p :: S) σ = if q = 0 then none else je X 128 87 L (.inl (p / q) :: S) σ := je_div (show jm_fe 128 86 = some (jk_div) from rfl)
set_option maxRecDepth 20000 in
theorem r_Run_combine_87 : je X 128 87 L [.inl p] σ = some (some (.inl p), σ) := je_iret (show jm_fe 128 87 = some (jk_iret) from rfl)
set_option maxRecDepth 20000 in
theorem r_Run_combine_88 : je X 128 88 [l0, l1, some (.inl x)] S σ = je X 128 89 [l0, l1, some (.inl x)] (.inl x :: S) σ := je_iload (show jm_fe 128 88 = some (jk_iload 2 1) from rfl) rfl
set_option maxRecDepth 20000 in
theorem r_Run_combine_89 : je X 128 89 L (.inl p :: S) σ = if p = 0 then je X 128 92 L S σ else je X 128 96 L S σ := je_if_ne (show jm_fe 128 89 = some (jk_if .ne 96) from rfl)
set_option maxRecDepth 20000 in
theorem r_Run_combine_92 : je X 128 92 L S σ = je X 128 93 L (.inl 0 :: S) σ := je_const (show jm_fe 128 92 = some (jk_const 0 1) from rfl)
set_option maxRecDepth 20000 in
theorem r_Run_combine_93 : je X 128 93 L S σ = je X 128 99 L S σ := je_goto (show jm_fe 128 93 = some (jk_goto 99) from rfl)
set_option maxRecDepth 20000 in
theorem r_Run_combine_96 : je X 128 96 [l0, some (.inl x), l2] S σ = je X 128 97 [l0, some (.inl x), l2] (.inl x :: S) σ := je_iload (show jm_fe 128 96 = some (jk_iload 1 1) from rfl) rfl
set_option maxRecDepth 20000 in
theorem r_Run_combine_97 : je X 128 97 [l0, l1, some (.inl x)] S σ = je X 128 98 [l0, l1, some (.inl x)] (.inl x :: S) σ := je_iload (show jm_fe 128 97 = some (jk_iload 2 1) from rfl) rfl
set_option maxRecDepth 20000 in
theorem r_Run_combine_98 : je X 128 98 L (.inl q :: .inl p :: S) σ = if q = 0 then none else je X 128 99 L (.inl (p - p / q * q) :: S) σ := je_rem (show jm_fe 128 98 = some (jk_rem) from rfl)
set_option maxRecDepth 20000 in
theorem r_Run_combine_99 : je X 128 99 L [.inl p] σ = some (some (.inl p), σ) := je_iret (show jm_fe 128 99 = some (jk_iret) from rfl)
set_option maxRecDepth 20000 in
theorem r_Run_combine_100 : je X 128 100 [l0, some (.inl x), l2] S σ = je X 128 101 [l0, some (.inl x), l2] (.inl x :: S) σ := je_iload (show jm_fe 128 100 = some (jk_iload 1 1) from rfl) rfl
set_option maxRecDepth 20000 in
theorem r_Run_combine_101 : je X 128 101 [l0, l1, some (.inl x)] S σ = je X 128 102 [l0, l1, some (.inl x)] (.inl x :: S) σ := je_iload (show jm_fe 128 101 = some (jk_iload 2 1) from rfl) rfl
set_option maxRecDepth 20000 in
theorem r_Run_combine_102 : je X 128 102 L (.inl q :: .inl p :: S) σ = je X 128 103 L (.inl (p &&& q) :: S) σ := je_bin (show jm_fe 128 102 = some (jb_iand) from rfl)
set_option maxRecDepth 20000 in
theorem r_Run_combine_103 : je X 128 103 L [.inl p] σ = some (some (.inl p), σ) := je_iret (show jm_fe 128 103 = some (jk_iret) from rfl)
set_option maxRecDepth 20000 in
theorem r_Run_combine_104 : je X 128 104 [l0, some (.inl x), l2] S σ = je X 128 105 [l0, some (.inl x), l2] (.inl x :: S) σ := je_iload (show jm_fe 128 104 = some (jk_iload 1 1) from rfl) rfl
set_option maxRecDepth 20000 in
theorem r_Run_combine_105 : je X 128 105 [l0, l1, some (.inl x)] S σ = je X 128 106 [l0, l1, some (.inl x)] (.inl x :: S) σ := je_iload (show jm_fe 128 105 = some (jk_iload 2 1) from rfl) rfl
set_option maxRecDepth 20000 in
theorem r_Run_combine_106 : je X 128 106 L (.inl q :: .inl p :: S) σ = je X 128 107 L (.inl (p ||| q) :: S) σ := je_bin (show jm_fe 128 106 = some (jb_ior) from rfl)
set_option maxRecDepth 20000 in
theorem r_Run_combine_107 : je X 128 107 L [.inl p] σ = some (some (.inl p), σ) := je_iret (show jm_fe 128 107 = some (jk_iret) from rfl)
set_option maxRecDepth 20000 in
theorem r_Run_combine_108 : je X 128 108 [l0, some (.inl x), l2] S σ = je X 128 109 [l0, some (.inl x), l2] (.inl x :: S) σ := je_iload (show jm_fe 128 108 = some (jk_iload 1 1) from rfl) rfl
set_option maxRecDepth 20000 in
theorem r_Run_combine_109 : je X 128 109 [l0, l1, some (.inl x)] S σ = je X 128 110 [l0, l1, some (.inl x)] (.inl x :: S) σ := je_iload (show jm_fe 128 109 = some (jk_iload 2 1) from rfl) rfl
set_option maxRecDepth 20000 in
theorem r_Run_combine_110 : je X 128 110 L (.inl q :: .inl p :: S) σ = je X 128 111 L (.inl (p ^^^ q) :: S) σ := je_bin (show jm_fe 128 110 = some (jb_ixor) from rfl)
set_option maxRecDepth 20000 in
theorem r_Run_combine_111 : je X 128 111 L [.inl p] σ = some (some (.inl p), σ) := je_iret (show jm_fe 128 111 = some (jk_iret) from rfl)
set_option maxRecDepth 20000 in
theorem r_Run_combine_112 : je X 128 112 [l0, some (.inl x), l2] S σ = je X 128 113 [l0, some (.inl x), l2] (.inl x :: S) σ := je_iload (show jm_fe 128 112 = some (jk_iload 1 1) from rfl) rfl
set_option maxRecDepth 20000 in
theorem r_Run_combine_113 : je X 128 113 [l0, l1, some (.inl x)] S σ = je X 128 114 [l0, l1, some (.inl x)] (.inl x :: S) σ := je_iload (show jm_fe 128 113 = some (jk_iload 2 1) from rfl) rfl
set_option maxRecDepth 20000 in
theorem r_Run_combine_114 : je X 128 114 L (.inl q :: .inl p :: S) σ = je X 128 115 L (.inl (p <<< (q &&& 31)) :: S) σ := je_bin (show jm_fe 128 114 = some (jb_ishl) from rfl)
set_option maxRecDepth 20000 in
theorem r_Run_combine_115 : je X 128 115 L [.inl p] σ = some (some (.inl p), σ) := je_iret (show jm_fe 128 115 = some (jk_iret) from rfl)
set_option maxRecDepth 20000 in
theorem r_Run_combine_116 : je X 128 116 [l0, some (.inl x), l2] S σ = je X 128 117 [l0, some (.inl x), l2] (.inl x :: S) σ := je_iload (show jm_fe 128 116 = some (jk_iload 1 1) from rfl) rfl
set_option maxRecDepth 20000 in
theorem r_Run_combine_117 : je X 128 117 [l0, l1, some (.inl x)] S σ = je X 128 118 [l0, l1, some (.inl x)] (.inl x :: S) σ := je_iload (show jm_fe 128 117 = some (jk_iload 2 1) from rfl) rfl
set_option maxRecDepth 20000 in
theorem r_Run_combine_118 : je X 128 118 L (.inl q :: .inl p :: S) σ = je X 128 119 L (.inl (p >>> (q &&& 31)) :: S) σ := je_bin (show jm_fe 128 118 = some (jb_ishr) from rfl)
set_option maxRecDepth 20000 in
theorem r_Run_combine_119 : je X 128 119 L [.inl p] σ = some (some (.inl p), σ) := je_iret (show jm_fe 128 119 = some (jk_iret) from rfl)
set_option maxRecDepth 20000 in
theorem r_Run_combine_120 : je X 128 120 [l0, some (.inl x), l2] S σ = je X 128 121 [l0, some (.inl x), l2] (.inl x :: S) σ := je_iload (show jm_fe 128 120 = some (jk_iload 1 1) from rfl) rfl
set_option maxRecDepth 20000 in
theorem r_Run_combine_121 : je X 128 121 [l0, l1, some (.inl x)] S σ = je X 128 122 [l0, l1, some (.inl x)] (.inl x :: S) σ := je_iload (show jm_fe 128 121 = some (jk_iload 2 1) from rfl) rfl
set_option maxRecDepth 20000 in
theorem r_Run_combine_122 : je X 128 122 L (.inl q :: .inl p :: S) σ = if q ≤ p then je X 128 129 L S σ else je X 128 125 L S σ := je_icmp_ge (show jm_fe 128 122 = some (jk_icmp .ge 129) from rfl)
set_option maxRecDepth 20000 in
theorem r_Run_combine_125 : je X 128 125 L S σ = je X 128 126 L (.inl 1 :: S) σ := je_const (show jm_fe 128 125 = some (jk_const 1 1) from rfl)
set_option maxRecDepth 20000 in
theorem r_Run_combine_126 : je X 128 126 L S σ = je X 128 130 L S σ := je_goto (show jm_fe 128 126 = some (jk_goto 130) from rfl)
set_option maxRecDepth 20000 in
theorem r_Run_combine_129 : je X 128 129 L S σ = je X 128 130 L (.inl 0 :: S) σ := je_const (show jm_fe 128 129 = some (jk_const 0 1) from rfl)
set_option maxRecDepth 20000 in
theorem r_Run_combine_130 : je X 128 130 L [.inl p] σ = some (some (.inl p), σ) := je_iret (show jm_fe 128 130 = some (jk_iret) from rfl)
set_option maxRecDepth 20000 in
theorem r_Run_combine_131 : je X 128 131 [l0, some (.inl x), l2] S σ = je X 128 132 [l0, some (.inl x), l2] (.inl x :: S) σ := je_iload (show jm_fe 128 131 = some (jk_iload 1 1) from rfl) rfl
set_option maxRecDepth 20000 in
theorem r_Run_combine_132 : je X 128 132 [l0, l1, some (.inl x)] S σ = je X 128 133 [l0, l1, some (.inl x)] (.inl x :: S) σ := je_iload (show jm_fe 128 132 = some (jk_iload 2 1) from rfl) rfl
set_option maxRecDepth 20000 in
theorem r_Run_combine_133 : je X 128 133 L (.inl q :: .inl p :: S) σ = if p = q then je X 128 136 L S σ else je X 128 140 L S σ := je_icmp_ne (show jm_fe 128 133 = some (jk_icmp .ne 140) from rfl)
set_option maxRecDepth 20000 in
theorem r_Run_combine_136 : je X 128 136 L S σ = je X 128 137 L (.inl 1 :: S) σ := je_const (show jm_fe 128 136 = some (jk_const 1 1) from rfl)
set_option maxRecDepth 20000 in
theorem r_Run_combine_137 : je X 128 137 L S σ = je X 128 141 L S σ := je_goto (show jm_fe 128 137 = some (jk_goto 141) from rfl)
set_option maxRecDepth 20000 in
theorem r_Run_combine_140 : je X 128 140 L S σ = je X 128 141 L (.inl 0 :: S) σ := je_const (show jm_fe 128 140 = some (jk_const 0 1) from rfl)
set_option maxRecDepth 20000 in
theorem r_Run_combine_141 : je X 128 141 L [.inl p] σ = some (some (.inl p), σ) := je_iret (show jm_fe 128 141 = some (jk_iret) from rfl)
set_option maxRecDepth 20000 in
theorem r_Run_combine_142 : je X 128 142 L S σ = je X 128 143 L (.inl 0 :: S) σ := je_const (show jm_fe 128 142 = some (jk_const 0 1) from rfl)
set_option maxRecDepth 20000 in
theorem r_Run_combine_143 : je X 128 143 L [.inl p] σ = some (some (.inl p), σ) := je_iret (show jm_fe 128 143 = some (jk_iret) from rfl)
theorem r_Run_makeRow_0 : je X 129 0 [l0, some (.inr r), l2, l3] S σ = je X 129 1 [l0, some (.inr r), l2, l3] (.inr r :: S) σ := je_aload (show jm_fe 129 0 = some (jk_aload 1 1) from rfl) rfl
theorem r_Run_makeRow_1 : je X 129 1 L S σ = je X 129 2 L (.inl 0 :: S) σ := je_const (show jm_fe 129 1 = some (jk_const 0 1) from rfl)
set_option maxRecDepth 20000 in
theorem r_Run_makeRow_2 (hc : jm_cl σ.1 a = some 6) (h8 : S.length ≤ 8) : je X 129 2 L (v0 :: .inr (.inl (some a)) :: S) σ = je_c X 129 5 L S (je X 74 0 [some (.inr (.inl (some a))), some v0] [] σ) := je_callV (as := [v0]) (S' := S) (show jm_fe 129 2 = some (jk_callV 74 1 6) from rfl) rfl hc h8
set_option maxRecDepth 20000 in
theorem r_Run_makeRow_5 : je X 129 5 L (.inl p :: S) σ = if p = 0 then je X 129 8 L S σ else je X 129 10 L S σ := je_if_ne (show jm_fe 129 5 = some (jk_if .ne 10) from rfl)
set_option maxRecDepth 20000 in
theorem r_Run_makeRow_8 : je X 129 8 L S σ = je X 129 9 L (.inl 2 :: S) σ := je_const (show jm_fe 129 8 = some (jk_const 2 1) from rfl)
set_option maxRecDepth 20000 in
theorem r_Run_makeRow_9 : je X 129 9 L [.inl p] σ = some (some (.inl p), σ) := je_iret (show jm_fe 129 9 = some (jk_iret) from rfl)
set_option maxRecDepth 20000 in
theorem r_Run_makeRow_10 : je X 129 10 [l0, some (.inr r), l2, l3] S σ = je X 129 11 [l0, some (.inr r), l2, l3] (.inr r :: S) σ := je_aload (show jm_fe 129 10 = some (jk_aload 1 1) from rfl) rfl
set_option maxRecDepth 20000 in
theorem r_Run_makeRow_11 : je X 129 11 L S σ = je X 129 12 L (.inl 0 :: S) σ := je_const (show jm_fe 129 11 = some (jk_const 0 1) from rfl)
set_option maxRecDepth 20000 in
theorem r_Run_makeRow_12 (hc : jm_cl σ.1 a = some 6) (h8 : S.length ≤ 8) : je X 129 12 L (v0 :: .inr (.inl (some a)) :: S) σ = je_c X 129 15 L S (je X 73 0 [some (.inr (.inl (some a))), some v0] [] σ) := je_callV (as := [v0]) (S' := S) (show jm_fe 129 12 = some (jk_callV 73 1 6) from rfl) rfl hc h8
set_option maxRecDepth 20000 in
theorem r_Run_makeRow_15 : je X 129 15 [l0, l1, l2, l3] (.inl x :: S) σ = je X 129 16 [l0, l1, some (.inl x), l3] S σ := je_istore (show jm_fe 129 15 = some (jk_istore 2 1) from rfl) (Nat.le_of_ble_eq_true rfl)
set_option maxRecDepth 20000 in
theorem r_Run_makeRow_16 : je X 129 16 [some (.inr r), l1, l2, l3] S σ = je X 129 17 [some (.inr r), l1, l2, l3] (.inr r :: S) σ := je_aload (show jm_fe 129 16 = some (jk_aload 0 1) from rfl) rfl
set_option maxRecDepth 20000 in
theorem r_Run_makeRow_17 : je X 129 17 L (.inr (.inl (some a)) :: S) σ = je_v X 129 20 L S σ (jm_gf σ.1 a 4 3) := je_getf (show jm_fe 129 17 = some (jk_getf 4 3) from rfl)
set_option maxRecDepth 20000 in
theorem r_Run_makeRow_20 : je X 129 20 [l0, l1, some (.inl x), l3] S σ = je X 129 21 [l0, l1, some (.inl x), l3] (.inl x :: S) σ := je_iload (show jm_fe 129 20 = some (jk_iload 2 1) from rfl) rfl
set_option maxRecDepth 20000 in
theorem r_Run_makeRow_21 (hc : jm_cl σ.1 a = some 7) (h8 : S.length ≤ 8) : je X 129 21 L (v0 :: .inr (.inl (some a)) :: S) σ = je_c X 129 24 L S (je X 108 0 [some (.inr (.inl (some a))), some v0, none] [] σ) := je_callV (as := [v0]) (S' := S) (show jm_fe 129 21 = some (jk_callV 108 1 7) from rfl) rfl hc h8
set_option maxRecDepth 20000 in
theorem r_Run_makeRow_24 : je X 129 24 [l0, l1, l2, l3] (.inl x :: S) σ = je X 129 25 [l0, l1, l2, some (.inl x)] S σ := je_istore (show jm_fe 129 24 = some (jk_istore 3 1) from rfl) (Nat.le_of_ble_eq_true rfl)
set_option maxRecDepth 20000 in
theorem r_Run_makeRow_25 : je X 129 25 [l0, l1, l2, some (.inl x)] S σ = je X 129 26 [l0, l1, l2, some (.inl x)] (.inl x :: S) σ := je_iload (show jm_fe 129 25 = some (jk_iload 3 1) from rfl) rfl
set_option maxRecDepth 20000 in
theorem r_Run_makeRow_26 : je X 129 26 L S σ = je X 129 27 L (.inl (-1) :: S) σ := je_const (show jm_fe 129 26 = some (jk_const (-1) 1) from rfl)
set_option maxRecDepth 20000 in
theorem r_Run_makeRow_27 : je X 129 27 L (.inl q :: .inl p :: S) σ = if p = q then je X 129 30 L S σ else je X 129 36 L S σ := je_icmp_ne (show jm_fe 129 27 = some (jk_icmp .ne 36) from rfl)
set_option maxRecDepth 20000 in
theorem r_Run_makeRow_30 : je X 129 30 [some (.inr r), l1, l2, l3] S σ = je X 129 31 [some (.inr r), l1, l2, l3] (.inr r :: S) σ := je_aload (show jm_fe 129 30 = some (jk_aload 0 1) from rfl) rfl
set_option maxRecDepth 20000 in
theorem r_Run_makeRow_31 : je X 129 31 L S σ = je X 129 32 L (.inl 3 :: S) σ := je_const (show jm_fe 129 31 = some (jk_const 3 1) from rfl)
set_option maxRecDepth 20000 in
theorem r_Run_makeRow_32 (hc : jm_cl σ.1 a = some 4) (h8 : S.length ≤ 8) : je X 129 32 L (v0 :: .inr (.inl (some a)) :: S) σ = je_c X 129 35 L S (je X 137 0 [some (.inr (.inl (some a))), some v0] [] σ) := je_callV (as := [v0]) (S' := S) (show jm_fe 129 32 = some (jk_callV 137 1 4) from rfl) rfl hc h8
set_option maxRecDepth 20000 in
theorem r_Run_makeRow_35 : je X 129 35 L [.inl p] σ = some (some (.inl p), σ) := je_iret (show jm_fe 129 35 = some (jk_iret) from rfl)
set_option maxRecDepth 20000 in
theorem r_Run_makeRow_36 : je X 129 36 [l0, some (.inr r), l2, l3] S σ = je X 129 37 [l0, some (.inr r), l2, l3] (.inr r :: S) σ := je_aload (show jm_fe 129 36 = some (jk_aload 1 1) from rfl) rfl
set_option maxRecDepth 20000 in
theorem r_Run_makeRow_37 : je X 129 37 L S σ = je X 129 38 L (.inl 1 :: S) σ := je_const (show jm_fe 129 37 = some (jk_const 1 1) from rfl)
set_option maxRecDepth 20000 in
theorem r_Run_makeRow_38 (hc : jm_cl σ.1 a = some 6) (h8 : S.length ≤ 8) : je X 129 38 L (v0 :: .inr (.inl (some a)) :: S) σ = je_c X 129 41 L S (je X 80 0 [some (.inr (.inl (some a))), some v0] [] σ) := je_callV (as := [v0]) (S' := S) (show jm_fe 129 38 = some (jk_callV 80 1 6) from rfl) rfl hc h8
set_option maxRecDepth 20000 in
theorem r_Run_makeRow_41 : je X 129 41 [l0, some (.inr r), l2, l3] S σ = je X 129 42 [l0, some (.inr r), l2, l3] (.inr r :: S) σ := je_aload (show jm_fe 129 41 = some (jk_aload 1 1) from rfl) rfl
set_option maxRecDepth 20000 in
theorem r_Run_makeRow_42 : je X 129 42 [l0, l1, some (.inl x), l3] S σ = je X 129 43 [l0, l1, some (.inl x), l3] (.inl x :: S) σ := je_iload (show jm_fe 129 42 = some (jk_iload 2 1) from rfl) rfl
set_option maxRecDepth 20000 in
theorem r_Run_makeRow_43 : je X 129 43 [l0, l1, l2, some (.inl x)] S σ = je X 129 44 [l0, l1, l2, some (.inl x)] (.inl x :: S) σ := je_iload (show jm_fe 129 43 = some (jk_iload 3 1) from rfl) rfl
set_option maxRecDepth 20000 in
theorem r_Run_makeRow_44 (hc : jm_cl σ.1 a = some 6) (h8 : S.length ≤ 8) : je X 129 44 L (v1 :: v0 :: .inr (.inl (some a)) :: S) σ = je_c X 129 47 L S (je X 78 0 [some (.inr (.inl (some a))), some v0, some v1] [] σ) := je_callV (as := [v0, v1]) (S' := S) (show jm_fe 129 44 = some (jk_callV 78 2 6) from rfl) rfl hc h8
set_option maxRecDepth 20000 in
theorem r_Run_makeRow_47 : je X 129 47 L S σ = je X 129 48 L (.inl 0 :: S) σ := je_const (show jm_fe 129 47 = some (jk_const 0 1) from rfl)
set_option maxRecDepth 20000 in
theorem r_Run_makeRow_48 : je X 129 48 L [.inl p] σ = some (some (.inl p), σ) := je_iret (show jm_fe 129 48 = some (jk_iret) from rfl)
theorem r_Run_getFromRow_0 : je X 130 0 [l0, some (.inr r), l2, l3] S σ = je X 130 1 [l0, some (.inr r), l2, l3] (.inr r :: S) σ := je_aload (show jm_fe 130 0 = some (jk_aload 1 1) from rfl) rfl
set_option maxRecDepth 20000 in
theorem r_Run_getFromRow_1 : je X 130 1 L S σ = je X 130 2 L (.inl 0 :: S) σ := je_const (show jm_fe 130 1 = some (jk_const 0 1) from rfl)
set_option maxRecDepth 20000 in
theorem r_Run_getFromRow_2 (hc : jm_cl σ.1 a = some 6) (h8 : S.length ≤ 8) : je X 130 2 L (v0 :: .inr (.inl (some a)) :: S) σ = je_c X 130 5 L S (je X 74 0 [some (.inr (.inl (some a))), some v0] [] σ) := je_callV (as := [v0]) (S' := S) (show jm_fe 130 2 = some (jk_callV 74 1 6) from rfl) rfl hc h8
set_option maxRecDepth 20000 in
theorem r_Run_getFromRow_5 : je X 130 5 L (.inl p :: S) σ = if p = 0 then je X 130 16 L S σ else je X 130 8 L S σ := je_if_eq (show jm_fe 130 5 = some (jk_if .eq 16) from rfl)
set_option maxRecDepth 20000 in
theorem r_Run_getFromRow_8 : je X 130 8 [l0, some (.inr r), l2, l3] S σ = je X 130 9 [l0, some (.inr r), l2, l3] (.inr r :: S) σ := je_aload (show jm_fe 130 8 = some (jk_aload 1 1) from rfl) rfl
set_option maxRecDepth 20000 in
theorem r_Run_getFromRow_9 : je X 130 9 L S σ = je X 130 10 L (.inl 1 :: S) σ := je_const (show jm_fe 130 9 = some (jk_const 1 1) from rfl)
set_option maxRecDepth 20000 in
theorem r_Run_getFromRow_10 (hc : jm_cl σ.1 a = some 6) (h8 : S.length ≤ 8) : je X 130 10 L (v0 :: .inr (.inl (some a)) :: S) σ = je_c X 130 13 L S (je X 75 0 [some (.inr (.inl (some a))), some v0] [] σ) := je_callV (as := [v0]) (S' := S) (show jm_fe 130 10 = some (jk_callV 75 1 6) from rfl) rfl hc h8
set_option maxRecDepth 20000 in
theorem r_Run_getFromRow_13 : je X 130 13 L (.inl p :: S) σ = if p = 0 then je X 130 16 L S σ else je X 130 18 L S σ := je_if_ne (show jm_fe 130 13 = some (jk_if .ne 18) from rfl)
set_option maxRecDepth 20000 in
theorem r_Run_getFromRow_16 : je X 130 16 L S σ = je X 130 17 L (.inl 2 :: S) σ := je_const (show jm_fe 130 16 = some (jk_const 2 1) from rfl)
set_option maxRecDepth 20000 in
theorem r_Run_getFromRow_17 : je X 130 17 L [.inl p] σ = some (some (.inl p), σ) := je_iret (show jm_fe 130 17 = some (jk_iret) from rfl)
set_option maxRecDepth 20000 in
theorem r_Run_getFromRow_18 : je X 130 18 [l0, some (.inr r), l2, l3] S σ = je X 130 19 [l0, some (.inr r), l2, l3] (.inr r :: S) σ := je_aload (show jm_fe 130 18 = some (jk_aload 1 1) from rfl) rfl
set_option maxRecDepth 20000 in
theorem r_Run_getFromRow_19 : je X 130 19 L S σ = je X 130 20 L (.inl 0 :: S) σ := je_const (show jm_fe 130 19 = some (jk_const 0 1) from rfl)
set_option maxRecDepth 20000 in
theorem r_Run_getFromRow_20 (hc : jm_cl σ.1 a = some 6) (h8 : S.length ≤ 8) : je X 130 20 L (v0 :: .inr (.inl (some a)) :: S) σ = je_c X 130 23 L S (je X 73 0 [some (.inr (.inl (some a))), some v0] [] σ) := je_callV (as := [v0]) (S' := S) (show jm_fe 130 20 = some (jk_callV 73 1 6) from rfl) rfl hc h8
set_option maxRecDepth 20000 in
theorem r_Run_getFromRow_23 : je X 130 23 [l0, l1, l2, l3] (.inl x :: S) σ = je X 130 24 [l0, l1, some (.inl x), l3] S σ := je_istore (show jm_fe 130 23 = some (jk_istore 2 1) from rfl) (Nat.le_of_ble_eq_true rfl)
set_option maxRecDepth 20000 in
theorem r_Run_getFromRow_24 : je X 130 24 [l0, some (.inr r), l2, l3] S σ = je X 130 25 [l0, some (.inr r), l2, l3] (.inr r :: S) σ := je_aload (show jm_fe 130 24 = some (jk_aload 1 1) from rfl) rfl
set_option maxRecDepth 20000 in
theorem r_Run_getFromRow_25 : je X 130 25 L S σ = je X 130 26 L (.inl 1 :: S) σ := je_const (show jm_fe 130 25 = some (jk_const 1 1) from rfl)
set_option maxRecDepth 20000 in
theorem r_Run_getFromRow_26 (hc : jm_cl σ.1 a = some 6) (h8 : S.length ≤ 8) : je X 130 26 L (v0 :: .inr (.inl (some a)) :: S) σ = je_c X 130 29 L S (je X 77 0 [some (.inr (.inl (some a))), some v0] [] σ) := je_callV (as := [v0]) (S' := S) (show jm_fe 130 26 = some (jk_callV 77 1 6) from rfl) rfl hc h8
set_option maxRecDepth 20000 in
theorem r_Run_getFromRow_29 : je X 130 29 [l0, l1, l2, l3] (.inl x :: S) σ = je X 130 30 [l0, l1, l2, some (.inl x)] S σ := je_istore (show jm_fe 130 29 = some (jk_istore 3 1) from rfl) (Nat.le_of_ble_eq_true rfl)
set_option maxRecDepth 20000 in
theorem r_Run_getFromRow_30 : je X 130 30 [some (.inr r), l1, l2, l3] S σ = je X 130 31 [some (.inr r), l1, l2, l3] (.inr r :: S) σ := je_aload (show jm_fe 130 30 = some (jk_aload 0 1) from rfl) rfl
set_option maxRecDepth 20000 in
theorem r_Run_getFromRow_31 : je X 130 31 L (.inr (.inl (some a)) :: S) σ = je_v X 130 34 L S σ (jm_gf σ.1 a 4 3) := je_getf (show jm_fe 130 31 = some (jk_getf 4 3) from rfl)
set_option maxRecDepth 20000 in
theorem r_Run_getFromRow_34 : je X 130 34 [l0, l1, l2, some (.inl x)] S σ = je X 130 35 [l0, l1, l2, some (.inl x)] (.inl x :: S) σ := je_iload (show jm_fe 130 34 = some (jk_iload 3 1) from rfl) rfl
set_option maxRecDepth 20000 in
theorem r_Run_getFromRow_35 : je X 130 35 [l0, l1, some (.inl x), l3] S σ = je X 130 36 [l0, l1, some (.inl x), l3] (.inl x :: S) σ := je_iload (show jm_fe 130 35 = some (jk_iload 2 1) from rfl) rfl
set_option maxRecDepth 20000 in
theorem r_Run_getFromRow_36 (hc : jm_cl σ.1 a = some 7) (h8 : S.length ≤ 8) : je X 130 36 L (v1 :: v0 :: .inr (.inl (some a)) :: S) σ = je_c X 130 39 L S (je X 109 0 [some (.inr (.inl (some a))), some v0, some v1] [] σ) := je_callV (as := [v0, v1]) (S' := S) (show jm_fe 130 36 = some (jk_callV 109 2 7) from rfl) rfl hc h8
set_option maxRecDepth 20000 in
theorem r_Run_getFromRow_39 : je X 130 39 L (.inl p :: S) σ = if p = 0 then je X 130 42 L S σ else je X 130 48 L S σ := je_if_ne (show jm_fe 130 39 = some (jk_if .ne 48) from rfl)
set_option maxRecDepth 20000 in
theorem r_Run_getFromRow_42 : je X 130 42 [some (.inr r), l1, l2, l3] S σ = je X 130 43 [some (.inr r), l1, l2, l3] (.inr r :: S) σ := je_aload (show jm_fe 130 42 = some (jk_aload 0 1) from rfl) rfl
set_option maxRecDepth 20000 in
theorem r_Run_getFromRow_43 : je X 130 43 L S σ = je X 130 44 L (.inl 2 :: S) σ := je_const (show jm_fe 130 43 = some (jk_const 2 1) from rfl)
set_option maxRecDepth 20000 in
theorem r_Run_getFromRow_44 (hc : jm_cl σ.1 a = some 4) (h8 : S.length ≤ 8) : je X 130 44 L (v0 :: .inr (.inl (some a)) :: S) σ = je_c X 130 47 L S (je X 137 0 [some (.inr (.inl (some a))), some v0] [] σ) := je_callV (as := [v0]) (S' := S) (show jm_fe 130 44 = some (jk_callV 137 1 4) from rfl) rfl hc h8
set_option maxRecDepth 20000 in
theorem r_Run_getFromRow_47 : je X 130 47 L [.inl p] σ = some (some (.inl p), σ) := je_iret (show jm_fe 130 47 = some (jk_iret) from rfl)
set_option maxRecDepth 20000 in
theorem r_Run_getFromRow_48 : je X 130 48 [l0, some (.inr r), l2, l3] S σ = je X 130 49 [l0, some (.inr r), l2, l3] (.inr r :: S) σ := je_aload (show jm_fe 130 48 = some (jk_aload 1 1) from rfl) rfl
set_option maxRecDepth 20000 in
theorem r_Run_getFromRow_49 : je X 130 49 L S σ = je X 130 50 L (.inl 2 :: S) σ := je_const (show jm_fe 130 49 = some (jk_const 2 1) from rfl)
set_option maxRecDepth 20000 in
theorem r_Run_getFromRow_50 : je X 130 50 [some (.inr r), l1, l2, l3] S σ = je X 130 51 [some (.inr r), l1, l2, l3] (.inr r :: S) σ := je_aload (show jm_fe 130 50 = some (jk_aload 0 1) from rfl) rfl
set_option maxRecDepth 20000 in
theorem r_Run_getFromRow_51 : je X 130 51 L (.inr (.inl (some a)) :: S) σ = je_v X 130 54 L S σ (jm_gf σ.1 a 4 3) := je_getf (show jm_fe 130 51 = some (jk_getf 4 3) from rfl)
set_option maxRecDepth 20000 in
theorem r_Run_getFromRow_54 : je X 130 54 [l0, l1, l2, some (.inl x)] S σ = je X 130 55 [l0, l1, l2, some (.inl x)] (.inl x :: S) σ := je_iload (show jm_fe 130 54 = some (jk_iload 3 1) from rfl) rfl
set_option maxRecDepth 20000 in
theorem r_Run_getFromRow_55 : je X 130 55 [l0, l1, some (.inl x), l3] S σ = je X 130 56 [l0, l1, some (.inl x), l3] (.inl x :: S) σ := je_iload (show jm_fe 130 55 = some (jk_iload 2 1) from rfl) rfl
set_option maxRecDepth 20000 in
theorem r_Run_getFromRow_56 (hc : jm_cl σ.1 a = some 7) (h8 : S.length ≤ 8) : je X 130 56 L (v1 :: v0 :: .inr (.inl (some a)) :: S) σ = je_c X 130 59 L S (je X 110 0 [some (.inr (.inl (some a))), some v0, some v1] [] σ) := je_callV (as := [v0, v1]) (S' := S) (show jm_fe 130 56 = some (jk_callV 110 2 7) from rfl) rfl hc h8
set_option maxRecDepth 20000 in
theorem r_Run_getFromRow_59 (hc : jm_cl σ.1 a = some 6) (h8 : S.length ≤ 8) : je X 130 59 L (v1 :: v0 :: .inr (.inl (some a)) :: S) σ = je_c X 130 62 L S (je X 81 0 [some (.inr (.inl (some a))), some v0, some v1] [] σ) := je_callV (as := [v0, v1]) (S' := S) (show jm_fe 130 59 = some (jk_callV 81 2 6) from rfl) rfl hc h8
set_option maxRecDepth 20000 in
theorem r_Run_getFromRow_62 : je X 130 62 L S σ = je X 130 63 L (.inl 0 :: S) σ := je_const (show jm_fe 130 62 = some (jk_const 0 1) from rfl)
set_option maxRecDepth 20000 in
theorem r_Run_getFromRow_63 : je X 130 63 L [.inl p] σ = some (some (.inl p), σ) := je_iret (show jm_fe 130 63 = some (jk_iret) from rfl)
set_option maxRecDepth 20000 in
theorem r_Run_putIntoRow_0 : je X 131 0 [l0, some (.inr r), l2, l3] S σ = je X 131 1 [l0, some (.inr r), l2, l3] (.inr r :: S) σ := je_aload (show jm_fe 131 0 = some (jk_aload 1 1) from rfl) rfl
set_option maxRecDepth 20000 in
theorem r_Run_putIntoRow_1 : je X 131 1 L S σ = je X 131 2 L (.inl 2 :: S) σ := je_const (show jm_fe 131 1 = some (jk_const 2 1) from rfl)
set_option maxRecDepth 20000 in
theorem r_Run_putIntoRow_2 (hc : jm_cl σ.1 a = some 6) (h8 : S.length ≤ 8) : je X 131 2 L (v0 :: .inr (.inl (some a)) :: S) σ = je_c X 131 5 L S (je X 76 0 [some (.inr (.inl (some a))), some v0, none] [] σ) := je_callV (as := [v0]) (S' := S) (show jm_fe 131 2 = some (jk_callV 76 1 6) from rfl) rfl hc h8
set_option maxRecDepth 20000 in
theorem r_Run_putIntoRow_5 : je X 131 5 L (.inl p :: S) σ = if p = 0 then je X 131 16 L S σ else je X 131 8 L S σ := je_if_eq (show jm_fe 131 5 = some (jk_if .eq 16) from rfl)
set_option maxRecDepth 20000 in
theorem r_Run_putIntoRow_8 : je X 131 8 [l0, some (.inr r), l2, l3] S σ = je X 131 9 [l0, some (.inr r), l2, l3] (.inr r :: S) σ := je_aload (show jm_fe 131 8 = some (jk_aload 1 1) from rfl) rfl
set_option maxRecDepth 20000 in
theorem r_Run_putIntoRow_9 : je X 131 9 L S σ = je X 131 10 L (.inl 2 :: S) σ := je_const (show jm_fe 131 9 = some (jk_const 2 1) from rfl)
set_option maxRecDepth 20000 in
theorem r_Run_putIntoRow_10 (hc : jm_cl σ.1 a = some 6) (h8 : S.length ≤ 8) : je X 131 10 L (v0 :: .inr (.inl (some a)) :: S) σ = je_c X 131 13 L S (je X 75 0 [some (.inr (.inl (some a))), some v0] [] σ) := je_callV (as := [v0]) (S' := S) (show jm_fe 131 10 = some (jk_callV 75 1 6) from rfl) rfl hc h8
set_option maxRecDepth 20000 in
theorem r_Run_putIntoRow_13 : je X 131 13 L (.inl p :: S) σ = if p = 0 then je X 131 16 L S σ else je X 131 18 L S σ := je_if_ne (show jm_fe 131 13 = some (jk_if .ne 18) from rfl)
set_option maxRecDepth 20000 in
theorem r_Run_putIntoRow_16 : je X 131 16 L S σ = je X 131 17 L (.inl 2 :: S) σ := je_const (show jm_fe 131 16 = some (jk_const 2 1) from rfl)
set_option maxRecDepth 20000 in
theorem r_Run_putIntoRow_17 : je X 131 17 L [.inl p] σ = some (some (.inl p), σ) := je_iret (show jm_fe 131 17 = some (jk_iret) from rfl)
set_option maxRecDepth 20000 in
theorem r_Run_putIntoRow_18 : je X 131 18 [l0, some (.inr r), l2, l3] S σ = je X 131 19 [l0, some (.inr r), l2, l3] (.inr r :: S) σ := je_aload (show jm_fe 131 18 = some (jk_aload 1 1) from rfl) rfl
set_option maxRecDepth 20000 in
theorem r_Run_putIntoRow_19 : je X 131 19 L S σ = je X 131 20 L (.inl 1 :: S) σ := je_const (show jm_fe 131 19 = some (jk_const 1 1) from rfl)
set_option maxRecDepth 20000 in
theorem r_Run_putIntoRow_20 (hc : jm_cl σ.1 a = some 6) (h8 : S.length ≤ 8) : je X 131 20 L (v0 :: .inr (.inl (some a)) :: S) σ = je_c X 131 23 L S (je X 73 0 [some (.inr (.inl (some a))), some v0] [] σ) := je_callV (as := [v0]) (S' := S) (show jm_fe 131 20 = some (jk_callV 73 1 6) from rfl) rfl hc h8
set_option maxRecDepth 20000 in
theorem r_Run_putIntoRow_23 : je X 131 23 [l0, l1, l2, l3] (.inl x :: S) σ = je X 131 24 [l0, l1, some (.inl x), l3] S σ := je_istore (show jm_fe 131 23 = some (jk_istore 2 1) from rfl) (Nat.le_of_ble_eq_true rfl)
set_option maxRecDepth 20000 in
theorem r_Run_putIntoRow_24 : je X 131 24 [l0, some (.inr r), l2, l3] S σ = je X 131 25 [l0, some (.inr r), l2, l3] (.inr r :: S) σ := je_aload (show jm_fe 131 24 = some (jk_aload 1 1) from rfl) rfl
set_option maxRecDepth 20000 in
theorem r_Run_putIntoRow_25 : je X 131 25 L S σ = je X 131 26 L (.inl 2 :: S) σ := je_const (show jm_fe 131 25 = some (jk_const 2 1) from rfl)
set_option maxRecDepth 20000 in
theorem r_Run_putIntoRow_26 (hc : jm_cl σ.1 a = some 6) (h8 : S.length ≤ 8) : je X 131 26 L (v0 :: .inr (.inl (some a)) :: S) σ = je_c X 131 29 L S (je X 77 0 [some (.inr (.inl (some a))), some v0] [] σ) := je_callV (as := [v0]) (S' := S) (show jm_fe 131 26 = some (jk_callV 77 1 6) from rfl) rfl hc h8
set_option maxRecDepth 20000 in
theorem r_Run_putIntoRow_29 : je X 131 29 [l0, l1, l2, l3] (.inl x :: S) σ = je X 131 30 [l0, l1, l2, some (.inl x)] S σ := je_istore (show jm_fe 131 29 = some (jk_istore 3 1) from rfl) (Nat.le_of_ble_eq_true rfl)
set_option maxRecDepth 20000 in
theorem r_Run_putIntoRow_30 : je X 131 30 [some (.inr r), l1, l2, l3] S σ = je X 131 31 [some (.inr r), l1, l2, l3] (.inr r :: S) σ := je_aload (show jm_fe 131 30 = some (jk_aload 0 1) from rfl) rfl
set_option maxRecDepth 20000 in
theorem r_Run_putIntoRow_31 : je X 131 31 L (.inr (.inl (some a)) :: S) σ = je_v X 131 34 L S σ (jm_gf σ.1 a 4 3) := je_getf (show jm_fe 131 31 = some (jk_getf 4 3) from rfl)
set_option maxRecDepth 20000 in
theorem r_Run_putIntoRow_34 : je X 131 34 [l0, l1, l2, some (.inl x)] S σ = je X 131 35 [l0, l1, l2, some (.inl x)] (.inl x :: S) σ := je_iload (show jm_fe 131 34 = some (jk_iload 3 1) from rfl) rfl
set_option maxRecDepth 20000 in
theorem r_Run_putIntoRow_35 : je X 131 35 [l0, l1, some (.inl x), l3] S σ = je X 131 36 [l0, l1, some (.inl x), l3] (.inl x :: S) σ := je_iload (show jm_fe 131 35 = some (jk_iload 2 1) from rfl) rfl
set_option maxRecDepth 20000 in
theorem r_Run_putIntoRow_36 (hc : jm_cl σ.1 a = some 7) (h8 : S.length ≤ 8) : je X 131 36 L (v1 :: v0 :: .inr (.inl (some a)) :: S) σ = je_c X 131 39 L S (je X 109 0 [some (.inr (.inl (some a))), some v0, some v1] [] σ) := je_callV (as := [v0, v1]) (S' := S) (show jm_fe 131 36 = some (jk_callV 109 2 7) from rfl) rfl hc h8
set_option maxRecDepth 20000 in
theorem r_Run_putIntoRow_39 : je X 131 39 L (.inl p :: S) σ = if p = 0 then je X 131 42 L S σ else je X 131 48 L S σ := je_if_ne (show jm_fe 131 39 = some (jk_if .ne 48) from rfl)
set_option maxRecDepth 20000 in
theorem r_Run_putIntoRow_42 : je X 131 42 [some (.inr r), l1, l2, l3] S σ = je X 131 43 [some (.inr r), l1, l2, l3] (.inr r :: S) σ := je_aload (show jm_fe 131 42 = some (jk_aload 0 1) from rfl) rfl
set_option maxRecDepth 20000 in
theorem r_Run_putIntoRow_43 : je X 131 43 L S σ = je X 131 44 L (.inl 2 :: S) σ := je_const (show jm_fe 131 43 = some (jk_const 2 1) from rfl)
set_option maxRecDepth 20000 in
theorem r_Run_putIntoRow_44 (hc : jm_cl σ.1 a = some 4) (h8 : S.length ≤ 8) : je X 131 44 L (v0 :: .inr (.inl (some a)) :: S) σ = je_c X 131 47 L S (je X 137 0 [some (.inr (.inl (some a))), some v0] [] σ) := je_callV (as := [v0]) (S' := S) (show jm_fe 131 44 = some (jk_callV 137 1 4) from rfl) rfl hc h8
set_option maxRecDepth 20000 in
theorem r_Run_putIntoRow_47 : je X 131 47 L [.inl p] σ = some (some (.inl p), σ) := je_iret (show jm_fe 131 47 = some (jk_iret) from rfl)
set_option maxRecDepth 20000 in
theorem r_Run_putIntoRow_48 : je X 131 48 [some (.inr r), l1, l2, l3] S σ = je X 131 49 [some (.inr r), l1, l2, l3] (.inr r :: S) σ := je_aload (show jm_fe 131 48 = some (jk_aload 0 1) from rfl) rfl
set_option maxRecDepth 20000 in
theorem r_Run_putIntoRow_49 : je X 131 49 L (.inr (.inl (some a)) :: S) σ = je_v X 131 52 L S σ (jm_gf σ.1 a 4 3) := je_getf (show jm_fe 131 49 = some (jk_getf 4 3) from rfl)
set_option maxRecDepth 20000 in
theorem r_Run_putIntoRow_52 : je X 131 52 [l0, l1, l2, some (.inl x)] S σ = je X 131 53 [l0, l1, l2, some (.inl x)] (.inl x :: S) σ := je_iload (show jm_fe 131 52 = some (jk_iload 3 1) from rfl) rfl
set_option maxRecDepth 20000 in
theorem r_Run_putIntoRow_53 : je X 131 53 [l0, l1, some (.inl x), l3] S σ = je X 131 54 [l0, l1, some (.inl x), l3] (.inl x :: S) σ := je_iload (show jm_fe 131 53 = some (jk_iload 2 1) from rfl) rfl
set_option maxRecDepth 20000 in
theorem r_Run_putIntoRow_54 : je X 131 54 [l0, some (.inr r), l2, l3] S σ = je X 131 55 [l0, some (.inr r), l2, l3] (.inr r :: S) σ := je_aload (show jm_fe 131 54 = some (jk_aload 1 1) from rfl) rfl
set_option maxRecDepth 20000 in
theorem r_Run_putIntoRow_55 : je X 131 55 L S σ = je X 131 56 L (.inl 0 :: S) σ := je_const (show jm_fe 131 55 = some (jk_const 0 1) from rfl)
set_option maxRecDepth 20000 in
theorem r_Run_putIntoRow_56 (hc : jm_cl σ.1 a = some 6) (h8 : S.length ≤ 8) : je X 131 56 L (v0 :: .inr (.inl (some a)) :: S) σ = je_c X 131 59 L S (je X 73 0 [some (.inr (.inl (some a))), some v0] [] σ) := je_callV (as := [v0]) (S' := S) (show jm_fe 131 56 = some (jk_callV 73 1 6) from rfl) rfl hc h8
set_option maxRecDepth 20000 in
theorem r_Run_putIntoRow_59 (hc : jm_cl σ.1 a = some 7) (h8 : S.length ≤ 8) : je X 131 59 L (v2 :: v1 :: v0 :: .inr (.inl (some a)) :: S) σ = je_c X 131 62 L S (je X 111 0 [some (.inr (.inl (some a))), some v0, some v1, some v2] [] σ) := je_callV (as := [v0, v1, v2]) (S' := S) (show jm_fe 131 59 = some (jk_callV 111 3 7) from rfl) rfl hc h8
set_option maxRecDepth 20000 in
theorem r_Run_putIntoRow_62 : je X 131 62 [l0, some (.inr r), l2, l3] S σ = je X 131 63 [l0, some (.inr r), l2, l3] (.inr r :: S) σ := je_aload (show jm_fe 131 62 = some (jk_aload 1 1) from rfl) rfl
set_option maxRecDepth 20000 in
theorem r_Run_putIntoRow_63 : je X 131 63 L S σ = je X 131 64 L (.inl 3 :: S) σ := je_const (show jm_fe 131 63 = some (jk_const 3 1) from rfl)
set_option maxRecDepth 20000 in
theorem r_Run_putIntoRow_64 (hc : jm_cl σ.1 a = some 6) (h8 : S.length ≤ 8) : je X 131 64 L (v0 :: .inr (.inl (some a)) :: S) σ = je_c X 131 67 L S (je X 80 0 [some (.inr (.inl (some a))), some v0] [] σ) := je_callV (as := [v0]) (S' := S) (show jm_fe 131 64 = some (jk_callV 80 1 6) from rfl) rfl hc h8
set_option maxRecDepth 20000 in
theorem r_Run_putIntoRow_67 : je X 131 67 L S σ = je X 131 68 L (.inl 0 :: S) σ := je_const (show jm_fe 131 67 = some (jk_const 0 1) from rfl)
set_option maxRecDepth 20000 in
theorem r_Run_putIntoRow_68 : je X 131 68 L [.inl p] σ = some (some (.inl p), σ) := je_iret (show jm_fe 131 68 = some (jk_iret) from rfl)
set_option maxRecDepth 20000 in
theorem r_Run_sizeOfRow_0 : je X 132 0 [some (.inr r)] S σ = je X 132 1 [some (.inr r)] (.inr r :: S) σ := je_aload (show jm_fe 132 0 = some (jk_aload 0 1) from rfl) rfl
set_option maxRecDepth 20000 in
theorem r_Run_sizeOfRow_1 : je X 132 1 L S σ = je X 132 2 L (.inl 0 :: S) σ := je_const (show jm_fe 132 1 = some (jk_const 0 1) from rfl)
set_option maxRecDepth 20000 in
theorem r_Run_sizeOfRow_2 (hc : jm_cl σ.1 a = some 6) (h8 : S.length ≤ 8) : je X 132 2 L (v0 :: .inr (.inl (some a)) :: S) σ = je_c X 132 5 L S (je X 75 0 [some (.inr (.inl (some a))), some v0] [] σ) := je_callV (as := [v0]) (S' := S) (show jm_fe 132 2 = some (jk_callV 75 1 6) from rfl) rfl hc h8
set_option maxRecDepth 20000 in
theorem r_Run_sizeOfRow_5 : je X 132 5 L (.inl p :: S) σ = if p = 0 then je X 132 8 L S σ else je X 132 10 L S σ := je_if_ne (show jm_fe 132 5 = some (jk_if .ne 10) from rfl)
set_option maxRecDepth 20000 in
theorem r_Run_sizeOfRow_8 : je X 132 8 L S σ = je X 132 9 L (.inl 2 :: S) σ := je_const (show jm_fe 132 8 = some (jk_const 2 1) from rfl)
set_option maxRecDepth 20000 in
theorem r_Run_sizeOfRow_9 : je X 132 9 L [.inl p] σ = some (some (.inl p), σ) := je_iret (show jm_fe 132 9 = some (jk_iret) from rfl)
set_option maxRecDepth 20000 in
theorem r_Run_sizeOfRow_10 : je X 132 10 [some (.inr r)] S σ = je X 132 11 [some (.inr r)] (.inr r :: S) σ := je_aload (show jm_fe 132 10 = some (jk_aload 0 1) from rfl) rfl
set_option maxRecDepth 20000 in
theorem r_Run_sizeOfRow_11 : je X 132 11 L S σ = je X 132 12 L (.inl 1 :: S) σ := je_const (show jm_fe 132 11 = some (jk_const 1 1) from rfl)
set_option maxRecDepth 20000 in
theorem r_Run_sizeOfRow_12 : je X 132 12 [some (.inr r)] S σ = je X 132 13 [some (.inr r)] (.inr r :: S) σ := je_aload (show jm_fe 132 12 = some (jk_aload 0 1) from rfl) rfl
set_option maxRecDepth 20000 in
theorem r_Run_sizeOfRow_13 : je X 132 13 L S σ = je X 132 14 L (.inl 0 :: S) σ := je_const (show jm_fe 132 13 = some (jk_const 0 1) from rfl)
set_option maxRecDepth 20000 in
theorem r_Run_sizeOfRow_14 (hc : jm_cl σ.1 a = some 6) (h8 : S.length ≤ 8) : je X 132 14 L (v0 :: .inr (.inl (some a)) :: S) σ = je_c X 132 17 L S (je X 73 0 [some (.inr (.inl (some a))), some v0] [] σ) := je_callV (as := [v0]) (S' := S) (show jm_fe 132 14 = some (jk_callV 73 1 6) from rfl) rfl hc h8
set_option maxRecDepth 20000 in
theorem r_Run_sizeOfRow_17 (hc : jm_cl σ.1 a = some 6) (h8 : S.length ≤ 8) : je X 132 17 L (v1 :: v0 :: .inr (.inl (some a)) :: S) σ = je_c X 132 20 L S (je X 81 0 [some (.inr (.inl (some a))), some v0, some v1] [] σ) := je_callV (as := [v0, v1]) (S' := S) (show jm_fe 132 17 = some (jk_callV 81 2 6) from rfl) rfl hc h8
set_option maxRecDepth 20000 in
theorem r_Run_sizeOfRow_20 : je X 132 20 L S σ = je X 132 21 L (.inl 0 :: S) σ := je_const (show jm_fe 132 20 = some (jk_const 0 1) from rfl)
set_option maxRecDepth 20000 in
theorem r_Run_sizeOfRow_21 : je X 132 21 L [.inl p] σ = some (some (.inl p), σ) := je_iret (show jm_fe 132 21 = some (jk_iret) from rfl)
set_option maxRecDepth 20000 in
theorem r_Run_callFunction_0 : je X 133 0 [some (.inr r), l1, l2, l3, l4, l5, l6] S σ = je X 133 1 [some (.inr r), l1, l2, l3, l4, l5, l6] (.inr r :: S) σ := je_aload (show jm_fe 133 0 = some (jk_aload 0 1) from rfl) rfl
set_option maxRecDepth 20000 in
theorem r_Run_callFunction_1 : je X 133 1 L (.inr (.inl (some a)) :: S) σ = je_v X 133 4 L S σ (jm_gf σ.1 a 4 0) := je_getf (show jm_fe 133 1 = some (jk_getf 4 0) from rfl)
set_option maxRecDepth 20000 in
theorem r_Run_callFunction_4 : je X 133 4 [l0, l1, some (.inl x), l3, l4, l5, l6] S σ = je X 133 5 [l0, l1, some (.inl x), l3, l4, l5, l6] (.inl x :: S) σ := je_iload (show jm_fe 133 4 = some (jk_iload 2 1) from rfl) rfl
set_option maxRecDepth 20000 in
theorem r_Run_callFunction_5 (hc : jm_cl σ.1 a = some 1) (h8 : S.length ≤ 8) : je X 133 5 L (v0 :: .inr (.inl (some a)) :: S) σ = je_c X 133 8 L S (je X 104 0 [some (.inr (.inl (some a))), some v0] [] σ) := je_callV (as := [v0]) (S' := S) (show jm_fe 133 5 = some (jk_callV 104 1 1) from rfl) rfl hc h8
set_option maxRecDepth 20000 in
theorem r_Run_callFunction_8 : je X 133 8 [l0, l1, l2, l3, l4, l5, l6] (.inr r :: S) σ = je X 133 9 [l0, l1, l2, some (.inr r), l4, l5, l6] S σ := je_astore (show jm_fe 133 8 = some (jk_astore 3 1) from rfl) (Nat.le_of_ble_eq_true rfl)
set_option maxRecDepth 20000 in
theorem r_Run_callFunction_9 : je X 133 9 [l0, l1, l2, some (.inr r), l4, l5, l6] S σ = je X 133 10 [l0, l1, l2, some (.inr r), l4, l5, l6] (.inr r :: S) σ := je_aload (show jm_fe 133 9 = some (jk_aload 3 1) from rfl) rfl
set_option maxRecDepth 20000 in
theorem r_Run_callFunction_10 : je X 133 10 L (.inr (.inl o) :: S) σ = if o = none then je X 133 24 L S σ else je X 133 13 L S σ := je_ifnull (show jm_fe 133 10 = some (jk_ifnull 24) from rfl)
set_option maxRecDepth 20000 in
theorem r_Run_callFunction_13 : je X 133 13 [l0, some (.inr r), l2, l3, l4, l5, l6] S σ = je X 133 14 [l0, some (.inr r), l2, l3, l4, l5, l6] (.inr r :: S) σ := je_aload (show jm_fe 133 13 = some (jk_aload 1 1) from rfl) rfl
set_option maxRecDepth 20000 in
theorem r_Run_callFunction_14 : je X 133 14 L (.inr (.inl (some a)) :: S) σ = je_v X 133 17 L S σ (jm_gf σ.1 a 6 2) := je_getf (show jm_fe 133 14 = some (jk_getf 6 2) from rfl)
set_option maxRecDepth 20000 in
theorem r_Run_callFunction_17 : je X 133 17 [l0, l1, l2, some (.inr r), l4, l5, l6] S σ = je X 133 18 [l0, l1, l2, some (.inr r), l4, l5, l6] (.inr r :: S) σ := je_aload (show jm_fe 133 17 = some (jk_aload 3 1) from rfl) rfl
set_option maxRecDepth 20000 in
theorem r_Run_callFunction_18 : je X 133 18 L (.inr (.inl (some a)) :: S) σ = je_v X 133 21 L S σ (jm_gf σ.1 a 2 7) := je_getf (show jm_fe 133 18 = some (jk_getf 2 7) from rfl)
set_option maxRecDepth 20000 in
theorem r_Run_callFunction_21 : je X 133 21 L (.inl q :: .inl p :: S) σ = if q ≤ p then je X 133 26 L S σ else je X 133 24 L S σ := je_icmp_ge (show jm_fe 133 21 = some (jk_icmp .ge 26) from rfl)
set_option maxRecDepth 20000 in
theorem r_Run_callFunction_24 : je X 133 24 L S σ = je X 133 25 L (.inl 2 :: S) σ := je_const (show jm_fe 133 24 = some (jk_const 2 1) from rfl)
set_option maxRecDepth 20000 in
theorem r_Run_callFunction_25 : je X 133 25 L [.inl p] σ = some (some (.inl p), σ) := je_iret (show jm_fe 133 25 = some (jk_iret) from rfl)
set_option maxRecDepth 20000 in
theorem r_Run_callFunction_26 : je X 133 26 [some (.inr r), l1, l2, l3, l4, l5, l6] S σ = je X 133 27 [some (.inr r), l1, l2, l3, l4, l5, l6] (.inr r :: S) σ := je_aload (show jm_fe 133 26 = some (jk_aload 0 1) from rfl) rfl
set_option maxRecDepth 20000 in
theorem r_Run_callFunction_27 : je X 133 27 L (.inr (.inl (some a)) :: S) σ = je_v X 133 30 L S σ (jm_gf σ.1 a 4 6) := je_getf (show jm_fe 133 27 = some (jk_getf 4 6) from rfl)
set_option maxRecDepth 20000 in
theorem r_Run_callFunction_30 : je X 133 30 L S σ = je X 133 32 L (.inl 20 :: S) σ := je_const (show jm_fe 133 30 = some (jk_const (20) 2) from rfl)
set_option maxRecDepth 20000 in
theorem r_Run_callFunction_32 : je X 133 32 L (.inl q :: .inl p :: S) σ = if p < q then je X 133 41 L S σ else je X 133 35 L S σ := je_icmp_lt (show jm_fe 133 32 = some (jk_icmp .lt 41) from rfl)
set_option maxRecDepth 20000 in
theorem r_Run_callFunction_35 : je X 133 35 [some (.inr r), l1, l2, l3, l4, l5, l6] S σ = je X 133 36 [some (.inr r), l1, l2, l3, l4, l5, l6] (.inr r :: S) σ := je_aload (show jm_fe 133 35 = some (jk_aload 0 1) from rfl) rfl
set_option maxRecDepth 20000 in
theorem r_Run_callFunction_36 : je X 133 36 L S σ = je X 133 37 L (.inl 4 :: S) σ := je_const (show jm_fe 133 36 = some (jk_const 4 1) from rfl)
set_option maxRecDepth 20000 in
theorem r_Run_callFunction_37 (hc : jm_cl σ.1 a = some 4) (h8 : S.length ≤ 8) : je X 133 37 L (v0 :: .inr (.inl (some a)) :: S) σ = je_c X 133 40 L S (je X 137 0 [some (.inr (.inl (some a))), some v0] [] σ) := je_callV (as := [v0]) (S' := S) (show jm_fe 133 37 = some (jk_callV 137 1 4) from rfl) rfl hc h8
set_option maxRecDepth 20000 in
theorem r_Run_callFunction_40 : je X 133 40 L [.inl p] σ = some (some (.inl p), σ) := je_iret (show jm_fe 133 40 = some (jk_iret) from rfl)
set_option maxRecDepth 20000 in
theorem r_Run_callFunction_41 : je X 133 41 [some (.inr r), l1, l2, l3, l4, l5, l6] S σ = je X 133 42 [some (.inr r), l1, l2, l3, l4, l5, l6] (.inr r :: S) σ := je_aload (show jm_fe 133 41 = some (jk_aload 0 1) from rfl) rfl
set_option maxRecDepth 20000 in
theorem r_Run_callFunction_42 : je X 133 42 [l0, l1, some (.inl x), l3, l4, l5, l6] S σ = je X 133 43 [l0, l1, some (.inl x), l3, l4, l5, l6] (.inl x :: S) σ := je_iload (show jm_fe 133 42 = some (jk_iload 2 1) from rfl) rfl
set_option maxRecDepth 20000 in
theorem r_Run_callFunction_43 (hc : jm_cl σ.1 a = some 4) (h8 : S.length ≤ 8) : je X 133 43 L (v0 :: .inr (.inl (some a)) :: S) σ = je_c X 133 46 L S (je X 116 0 [some (.inr (.inl (some a))), some v0, none] [] σ) := je_callV (as := [v0]) (S' := S) (show jm_fe 133 43 = some (jk_callV 116 1 4) from rfl) rfl hc h8
set_option maxRecDepth 20000 in
theorem r_Run_callFunction_46 : je X 133 46 [some (.inr r), l1, l2, l3, l4, l5, l6] S σ = je X 133 47 [some (.inr r), l1, l2, l3, l4, l5, l6] (.inr r :: S) σ := je_aload (show jm_fe 133 46 = some (jk_aload 0 1) from rfl) rfl
set_option maxRecDepth 20000 in
theorem r_Run_callFunction_47 : je X 133 47 L S σ = je X 133 48 L (.inl 0 :: S) σ := je_const (show jm_fe 133 47 = some (jk_const 0 1) from rfl)
set_option maxRecDepth 20000 in
theorem r_Run_callFunction_48 (hc : jm_cl σ.1 a = some 4) (h8 : S.length ≤ 8) : je X 133 48 L (v0 :: .inr (.inl (some a)) :: S) σ = je_c X 133 51 L S (je X 115 0 [some (.inr (.inl (some a))), some v0] [] σ) := je_callV (as := [v0]) (S' := S) (show jm_fe 133 48 = some (jk_callV 115 1 4) from rfl) rfl hc h8
set_option maxRecDepth 20000 in
theorem r_Run_callFunction_51 : je X 133 51 [l0, l1, l2, l3, l4, l5, l6] (.inr r :: S) σ = je X 133 53 [l0, l1, l2, l3, some (.inr r), l5, l6] S σ := je_astore (show jm_fe 133 51 = some (jk_astore 4 2) from rfl) (Nat.le_of_ble_eq_true rfl)
set_option maxRecDepth 20000 in
theorem r_Run_callFunction_53 : je X 133 53 [l0, some (.inr r), l2, l3, l4, l5, l6] S σ = je X 133 54 [l0, some (.inr r), l2, l3, l4, l5, l6] (.inr r :: S) σ := je_aload (show jm_fe 133 53 = some (jk_aload 1 1) from rfl) rfl
set_option maxRecDepth 20000 in
theorem r_Run_callFunction_54 : je X 133 54 L (.inr (.inl (some a)) :: S) σ = je_v X 133 57 L S σ (jm_gf σ.1 a 6 2) := je_getf (show jm_fe 133 54 = some (jk_getf 6 2) from rfl)
set_option maxRecDepth 20000 in
theorem r_Run_callFunction_57 : je X 133 57 [l0, l1, l2, some (.inr r), l4, l5, l6] S σ = je X 133 58 [l0, l1, l2, some (.inr r), l4, l5, l6] (.inr r :: S) σ := je_aload (show jm_fe 133 57 = some (jk_aload 3 1) from rfl) rfl
set_option maxRecDepth 20000 in
theorem r_Run_callFunction_58 : je X 133 58 L (.inr (.inl (some a)) :: S) σ = je_v X 133 61 L S σ (jm_gf σ.1 a 2 7) := je_getf (show jm_fe 133 58 = some (jk_getf 2 7) from rfl)
set_option maxRecDepth 20000 in
theorem r_Run_callFunction_61 : je X 133 61 L (.inl q :: .inl p :: S) σ = je X 133 62 L (.inl (p - q) :: S) σ := je_bin (show jm_fe 133 61 = some (jb_isub) from rfl)
set_option maxRecDepth 20000 in
theorem r_Run_callFunction_62 : je X 133 62 [l0, l1, l2, l3, l4, l5, l6] (.inl x :: S) σ = je X 133 64 [l0, l1, l2, l3, l4, some (.inl x), l6] S σ := je_istore (show jm_fe 133 62 = some (jk_istore 5 2) from rfl) (Nat.le_of_ble_eq_true rfl)
set_option maxRecDepth 20000 in
theorem r_Run_callFunction_64 : je X 133 64 L S σ = je X 133 65 L (.inl 0 :: S) σ := je_const (show jm_fe 133 64 = some (jk_const 0 1) from rfl)
set_option maxRecDepth 20000 in
theorem r_Run_callFunction_65 : je X 133 65 [l0, l1, l2, l3, l4, l5, l6] (.inl x :: S) σ = je X 133 67 [l0, l1, l2, l3, l4, l5, some (.inl x)] S σ := je_istore (show jm_fe 133 65 = some (jk_istore 6 2) from rfl) (Nat.le_of_ble_eq_true rfl)
set_option maxRecDepth 20000 in
theorem r_Run_callFunction_67 : je X 133 67 [l0, l1, l2, l3, some (.inr r), l5, l6] S σ = je X 133 69 [l0, l1, l2, l3, some (.inr r), l5, l6] (.inr r :: S) σ := je_aload (show jm_fe 133 67 = some (jk_aload 4 2) from rfl) rfl
set_option maxRecDepth 20000 in
theorem r_Run_callFunction_69 : je X 133 69 L (.inr (.inl o) :: S) σ = if o = none then je X 133 115 L S σ else je X 133 72 L S σ := je_ifnull (show jm_fe 133 69 = some (jk_ifnull 115) from rfl)
set_option maxRecDepth 20000 in
theorem r_Run_callFunction_72 : je X 133 72 [l0, l1, l2, l3, l4, l5, some (.inl x)] S σ = je X 133 74 [l0, l1, l2, l3, l4, l5, some (.inl x)] (.inl x :: S) σ := je_iload (show jm_fe 133 72 = some (jk_iload 6 2) from rfl) rfl
set_option maxRecDepth 20000 in
theorem r_Run_callFunction_74 : je X 133 74 [l0, l1, l2, some (.inr r), l4, l5, l6] S σ = je X 133 75 [l0, l1, l2, some (.inr r), l4, l5, l6] (.inr r :: S) σ := je_aload (show jm_fe 133 74 = some (jk_aload 3 1) from rfl) rfl
set_option maxRecDepth 20000 in
theorem r_Run_callFunction_75 : je X 133 75 L (.inr (.inl (some a)) :: S) σ = je_v X 133 78 L S σ (jm_gf σ.1 a 2 7) := je_getf (show jm_fe 133 75 = some (jk_getf 2 7) from rfl)
set_option maxRecDepth 20000 in
theorem r_Run_callFunction_78 : je X 133 78 L (.inl q :: .inl p :: S) σ = if q ≤ p then je X 133 115 L S σ else je X 133 81 L S σ := je_icmp_ge (show jm_fe 133 78 = some (jk_icmp .ge 115) from rfl)
set_option maxRecDepth 20000 in
theorem r_Run_callFunction_81 : je X 133 81 [l0, l1, l2, l3, some (.inr r), l5, l6] S σ = je X 133 83 [l0, l1, l2, l3, some (.inr r), l5, l6] (.inr r :: S) σ := je_aload (show jm_fe 133 81 = some (jk_aload 4 2) from rfl) rfl
set_option maxRecDepth 20000 in
theorem r_Run_callFunction_83 : je X 133 83 L (.inr (.inl (some a)) :: S) σ = je_v X 133 86 L S σ (jm_gf σ.1 a 5 1) := je_getf (show jm_fe 133 83 = some (jk_getf 5 1) from rfl)
set_option maxRecDepth 20000 in
theorem r_Run_callFunction_86 : je X 133 86 [l0, l1, l2, l3, l4, l5, some (.inl x)] S σ = je X 133 88 [l0, l1, l2, l3, l4, l5, some (.inl x)] (.inl x :: S) σ := je_iload (show jm_fe 133 86 = some (jk_iload 6 2) from rfl) rfl
set_option maxRecDepth 20000 in
theorem r_Run_callFunction_88 : je X 133 88 [l0, some (.inr r), l2, l3, l4, l5, l6] S σ = je X 133 89 [l0, some (.inr r), l2, l3, l4, l5, l6] (.inr r :: S) σ := je_aload (show jm_fe 133 88 = some (jk_aload 1 1) from rfl) rfl
set_option maxRecDepth 20000 in
theorem r_Run_callFunction_89 : je X 133 89 [l0, l1, l2, l3, l4, some (.inl x), l6] S σ = je X 133 91 [l0, l1, l2, l3, l4, some (.inl x), l6] (.inl x :: S) σ := je_iload (show jm_fe 133 89 = some (jk_iload 5 2) from rfl) rfl
set_option maxRecDepth 20000 in
theorem r_Run_callFunction_91 : je X 133 91 [l0, l1, l2, l3, l4, l5, some (.inl x)] S σ = je X 133 93 [l0, l1, l2, l3, l4, l5, some (.inl x)] (.inl x :: S) σ := je_iload (show jm_fe 133 91 = some (jk_iload 6 2) from rfl) rfl
set_option maxRecDepth 20000 in
theorem r_Run_callFunction_93 : je X 133 93 L (.inl q :: .inl p :: S) σ = je X 133 94 L (.inl (p + q) :: S) σ := je_bin (show jm_fe 133 93 = some (jb_iadd) from rfl)
set_option maxRecDepth 20000 in
theorem r_Run_callFunction_94 (hc : jm_cl σ.1 a = some 6) (h8 : S.length ≤ 8) : je X 133 94 L (v0 :: .inr (.inl (some a)) :: S) σ = je_c X 133 97 L S (je X 71 0 [some (.inr (.inl (some a))), some v0] [] σ) := je_callV (as := [v0]) (S' := S) (show jm_fe 133 94 = some (jk_callV 71 1 6) from rfl) rfl hc h8
set_option maxRecDepth 20000 in
theorem r_Run_callFunction_97 : je X 133 97 [l0, some (.inr r), l2, l3, l4, l5, l6] S σ = je X 133 98 [l0, some (.inr r), l2, l3, l4, l5, l6] (.inr r :: S) σ := je_aload (show jm_fe 133 97 = some (jk_aload 1 1) from rfl) rfl
set_option maxRecDepth 20000 in
theorem r_Run_callFunction_98 : je X 133 98 [l0, l1, l2, l3, l4, some (.inl x), l6] S σ = je X 133 100 [l0, l1, l2, l3, l4, some (.inl x), l6] (.inl x :: S) σ := je_iload (show jm_fe 133 98 = some (jk_iload 5 2) from rfl) rfl
set_option maxRecDepth 20000 in
theorem r_Run_callFunction_100 : je X 133 100 [l0, l1, l2, l3, l4, l5, some (.inl x)] S σ = je X 133 102 [l0, l1, l2, l3, l4, l5, some (.inl x)] (.inl x :: S) σ := je_iload (show jm_fe 133 100 = some (jk_iload 6 2) from rfl) rfl
set_option maxRecDepth 20000 in
theorem r_Run_callFunction_102 : je X 133 102 L (.inl q :: .inl p :: S) σ = je X 133 103 L (.inl (p + q) :: S) σ := je_bin (show jm_fe 133 102 = some (jb_iadd) from rfl)
set_option maxRecDepth 20000 in
theorem r_Run_callFunction_103 (hc : jm_cl σ.1 a = some 6) (h8 : S.length ≤ 8) : je X 133 103 L (v0 :: .inr (.inl (some a)) :: S) σ = je_c X 133 106 L S (je X 72 0 [some (.inr (.inl (some a))), some v0] [] σ) := je_callV (as := [v0]) (S' := S) (show jm_fe 133 103 = some (jk_callV 72 1 6) from rfl) rfl hc h8
set_option maxRecDepth 20000 in
theorem r_Run_callFunction_106 (hc : jm_cl σ.1 a = some 6) (h8 : S.length ≤ 8) : je X 133 106 L (v2 :: v1 :: v0 :: .inr (.inl (some a)) :: S) σ = je_c X 133 109 L S (je X 79 0 [some (.inr (.inl (some a))), some v0, some v1, some v2] [] σ) := je_callV (as := [v0, v1, v2]) (S' := S) (show jm_fe 133 106 = some (jk_callV 79 3 6) from rfl) rfl hc h8
set_option maxRecDepth 20000 in
theorem r_Run_callFunction_109 : je X 133 109 [l0, l1, l2, l3, l4, l5, some (.inl x)] S σ = je X 133 112 [l0, l1, l2, l3, l4, l5, some (.inl (x + (1)))] S σ := je_iinc (show jm_fe 133 109 = some (jk_iinc 6 (1)) from rfl) rfl
set_option maxRecDepth 20000 in
theorem r_Run_callFunction_112 : je X 133 112 L S σ = je X 133 67 L S σ := je_goto (show jm_fe 133 112 = some (jk_goto 67) from rfl)
set_option maxRecDepth 20000 in
theorem r_Run_callFunction_115 : je X 133 115 [l0, some (.inr r), l2, l3, l4, l5, l6] S σ = je X 133 116 [l0, some (.inr r), l2, l3, l4, l5, l6] (.inr r :: S) σ := je_aload (show jm_fe 133 115 = some (jk_aload 1 1) from rfl) rfl
set_option maxRecDepth 20000 in
theorem r_Run_callFunction_116 : je X 133 116 [l0, l1, l2, some (.inr r), l4, l5, l6] S σ = je X 133 117 [l0, l1, l2, some (.inr r), l4, l5, l6] (.inr r :: S) σ := je_aload (show jm_fe 133 116 = some (jk_aload 3 1) from rfl) rfl
set_option maxRecDepth 20000 in
theorem r_Run_callFunction_117 : je X 133 117 L (.inr (.inl (some a)) :: S) σ = je_v X 133 120 L S σ (jm_gf σ.1 a 2 7) := je_getf (show jm_fe 133 117 = some (jk_getf 2 7) from rfl)
set_option maxRecDepth 20000 in
theorem r_Run_callFunction_120 (hc : jm_cl σ.1 a = some 6) (h8 : S.length ≤ 8) : je X 133 120 L (v0 :: .inr (.inl (some a)) :: S) σ = je_c X 133 123 L S (je X 80 0 [some (.inr (.inl (some a))), some v0] [] σ) := je_callV (as := [v0]) (S' := S) (show jm_fe 133 120 = some (jk_callV 80 1 6) from rfl) rfl hc h8
set_option maxRecDepth 20000 in
theorem r_Run_callFunction_123 : je X 133 123 L S σ = je X 133 124 L (.inl 1 :: S) σ := je_const (show jm_fe 133 123 = some (jk_const 1 1) from rfl)
set_option maxRecDepth 20000 in
theorem r_Run_callFunction_124 : je X 133 124 L [.inl p] σ = some (some (.inl p), σ) := je_iret (show jm_fe 133 124 = some (jk_iret) from rfl)
set_option maxRecDepth 20000 in
theorem r_Run_callOutside_0 : je X 134 0 [l0, l1, some (.inl x), l3, l4] S σ = je X 134 1 [l0, l1, some (.inl x), l3, l4] (.inl x :: S) σ := je_iload (show jm_fe 134 0 = some (jk_iload 2 1) from rfl) rfl
set_option maxRecDepth 20000 in
theorem r_Run_callOutside_1 : je X 134 1 L (.inl p :: S) σ = if p < 0 then je X 134 10 L S σ else je X 134 4 L S σ := je_if_lt (show jm_fe 134 1 = some (jk_if .lt 10) from rfl)
set_option maxRecDepth 20000 in
theorem r_Run_callOutside_4 : je X 134 4 [l0, l1, some (.inl x), l3, l4] S σ = je X 134 5 [l0, l1, some (.inl x), l3, l4] (.inl x :: S) σ := je_iload (show jm_fe 134 4 = some (jk_iload 2 1) from rfl) rfl
set_option maxRecDepth 20000 in
theorem r_Run_callOutside_5 : je X 134 5 L S σ = je X 134 7 L (.inl 15 :: S) σ := je_const (show jm_fe 134 5 = some (jk_const (15) 2) from rfl)
set_option maxRecDepth 20000 in
theorem r_Run_callOutside_7 : je X 134 7 L (.inl q :: .inl p :: S) σ = if p ≤ q then je X 134 12 L S σ else je X 134 10 L S σ := je_icmp_le (show jm_fe 134 7 = some (jk_icmp .le 12) from rfl)
set_option maxRecDepth 20000 in
theorem r_Run_callOutside_10 : je X 134 10 L S σ = je X 134 11 L (.inl 2 :: S) σ := je_const (show jm_fe 134 10 = some (jk_const 2 1) from rfl)
set_option maxRecDepth 20000 in
theorem r_Run_callOutside_11 : je X 134 11 L [.inl p] σ = some (some (.inl p), σ) := je_iret (show jm_fe 134 11 = some (jk_iret) from rfl)
set_option maxRecDepth 20000 in
theorem r_Run_callOutside_12 : je X 134 12 [l0, l1, some (.inl x), l3, l4] S σ = je X 134 13 [l0, l1, some (.inl x), l3, l4] (.inl x :: S) σ := je_iload (show jm_fe 134 12 = some (jk_iload 2 1) from rfl) rfl
set_option maxRecDepth 20000 in
theorem r_Run_callOutside_13 : je X 134 13 L S σ = je X 134 14 L (.inl 4 :: S) σ := je_const (show jm_fe 134 13 = some (jk_const 4 1) from rfl)
set_option maxRecDepth 20000 in
theorem r_Run_callOutside_14 : je X 134 14 L (.inl q :: .inl p :: S) σ = if q = 0 then none else je X 134 15 L (.inl (p - p / q * q) :: S) σ := je_rem (show jm_fe 134 14 = some (jk_rem) from rfl)
set_option maxRecDepth 20000 in
theorem r_Run_callOutside_15 : je X 134 15 [l0, l1, l2, l3, l4] (.inl x :: S) σ = je X 134 16 [l0, l1, l2, some (.inl x), l4] S σ := je_istore (show jm_fe 134 15 = some (jk_istore 3 1) from rfl) (Nat.le_of_ble_eq_true rfl)
set_option maxRecDepth 20000 in
theorem r_Run_callOutside_16 : je X 134 16 [l0, some (.inr r), l2, l3, l4] S σ = je X 134 17 [l0, some (.inr r), l2, l3, l4] (.inr r :: S) σ := je_aload (show jm_fe 134 16 = some (jk_aload 1 1) from rfl) rfl
set_option maxRecDepth 20000 in
theorem r_Run_callOutside_17 : je X 134 17 [l0, l1, l2, some (.inl x), l4] S σ = je X 134 18 [l0, l1, l2, some (.inl x), l4] (.inl x :: S) σ := je_iload (show jm_fe 134 17 = some (jk_iload 3 1) from rfl) rfl
set_option maxRecDepth 20000 in
theorem r_Run_callOutside_18 (hc : jm_cl σ.1 a = some 6) (h8 : S.length ≤ 8) : je X 134 18 L (v0 :: .inr (.inl (some a)) :: S) σ = je_c X 134 21 L S (je X 76 0 [some (.inr (.inl (some a))), some v0, none] [] σ) := je_callV (as := [v0]) (S' := S) (show jm_fe 134 18 = some (jk_callV 76 1 6) from rfl) rfl hc h8
set_option maxRecDepth 20000 in
theorem r_Run_callOutside_21 : je X 134 21 L (.inl p :: S) σ = if p = 0 then je X 134 35 L S σ else je X 134 24 L S σ := je_if_eq (show jm_fe 134 21 = some (jk_if .eq 35) from rfl)
set_option maxRecDepth 20000 in
theorem r_Run_callOutside_24 : je X 134 24 [l0, l1, l2, some (.inl x), l4] S σ = je X 134 25 [l0, l1, l2, some (.inl x), l4] (.inl x :: S) σ := je_iload (show jm_fe 134 24 = some (jk_iload 3 1) from rfl) rfl
set_option maxRecDepth 20000 in
theorem r_Run_callOutside_25 : je X 134 25 L (.inl p :: S) σ = if p = 0 then je X 134 28 L S σ else je X 134 37 L S σ := je_if_ne (show jm_fe 134 25 = some (jk_if .ne 37) from rfl)
set_option maxRecDepth 20000 in
theorem r_Run_callOutside_28 : je X 134 28 [l0, some (.inr r), l2, l3, l4] S σ = je X 134 29 [l0, some (.inr r), l2, l3, l4] (.inr r :: S) σ := je_aload (show jm_fe 134 28 = some (jk_aload 1 1) from rfl) rfl
set_option maxRecDepth 20000 in
theorem r_Run_callOutside_29 (hc : jm_cl σ.1 a = some 6) (h8 : S.length ≤ 8) : je X 134 29 L (.inr (.inl (some a)) :: S) σ = je_c X 134 32 L S (je X 70 0 [some (.inr (.inl (some a)))] [] σ) := je_callV (as := []) (S' := S) (show jm_fe 134 29 = some (jk_callV 70 0 6) from rfl) rfl hc h8
set_option maxRecDepth 20000 in
theorem r_Run_callOutside_32 : je X 134 32 L (.inl p :: S) σ = if p = 0 then je X 134 37 L S σ else je X 134 35 L S σ := je_if_eq (show jm_fe 134 32 = some (jk_if .eq 37) from rfl)
set_option maxRecDepth 20000 in
theorem r_Run_callOutside_35 : je X 134 35 L S σ = je X 134 36 L (.inl 2 :: S) σ := je_const (show jm_fe 134 35 = some (jk_const 2 1) from rfl)
set_option maxRecDepth 20000 in
theorem r_Run_callOutside_36 : je X 134 36 L [.inl p] σ = some (some (.inl p), σ) := je_iret (show jm_fe 134 36 = some (jk_iret) from rfl)
set_option maxRecDepth 20000 in
theorem r_Run_callOutside_37 : je X 134 37 [some (.inr r), l1, l2, l3, l4] S σ = je X 134 38 [some (.inr r), l1, l2, l3, l4] (.inr r :: S) σ := je_aload (show jm_fe 134 37 = some (jk_aload 0 1) from rfl) rfl
set_option maxRecDepth 20000 in
theorem r_Run_callOutside_38 : je X 134 38 L (.inr (.inl (some a)) :: S) σ = je_v X 134 41 L S σ (jm_gf σ.1 a 4 1) := je_getf (show jm_fe 134 38 = some (jk_getf 4 1) from rfl)
set_option maxRecDepth 20000 in
theorem r_Run_callOutside_41 : je X 134 41 [some (.inr r), l1, l2, l3, l4] S σ = je X 134 42 [some (.inr r), l1, l2, l3, l4] (.inr r :: S) σ := je_aload (show jm_fe 134 41 = some (jk_aload 0 1) from rfl) rfl
set_option maxRecDepth 20000 in
theorem r_Run_callOutside_42 : je X 134 42 L (.inr (.inl (some a)) :: S) σ = je_v X 134 45 L S σ (jm_gf σ.1 a 4 4) := je_getf (show jm_fe 134 42 = some (jk_getf 4 4) from rfl)
set_option maxRecDepth 20000 in
theorem r_Run_callOutside_45 : je X 134 45 L (.inr (.inl (some a)) :: S) σ = je_v X 134 48 L S σ (jm_gf σ.1 a 8 1) := je_getf (show jm_fe 134 45 = some (jk_getf 8 1) from rfl)
set_option maxRecDepth 20000 in
theorem r_Run_callOutside_48 (hc : jm_cl σ.1 a = some 3) (h8 : S.length ≤ 8) : je X 134 48 L (v0 :: .inr (.inl (some a)) :: S) σ = je_c X 134 51 L S (je X 67 0 [some (.inr (.inl (some a))), some v0] [] σ) := je_callV (as := [v0]) (S' := S) (show jm_fe 134 48 = some (jk_callV 67 1 3) from rfl) rfl hc h8
set_option maxRecDepth 20000 in
theorem r_Run_callOutside_51 : je X 134 51 [l0, l1, l2, l3, l4] (.inl x :: S) σ = je X 134 53 [l0, l1, l2, l3, some (.inl x)] S σ := je_istore (show jm_fe 134 51 = some (jk_istore 4 2) from rfl) (Nat.le_of_ble_eq_true rfl)
set_option maxRecDepth 20000 in
theorem r_Run_callOutside_53 : je X 134 53 [some (.inr r), l1, l2, l3, l4] S σ = je X 134 54 [some (.inr r), l1, l2, l3, l4] (.inr r :: S) σ := je_aload (show jm_fe 134 53 = some (jk_aload 0 1) from rfl) rfl
set_option maxRecDepth 20000 in
theorem r_Run_callOutside_54 : je X 134 54 L (.inr (.inl (some a)) :: S) σ = je_v X 134 57 L S σ (jm_gf σ.1 a 4 4) := je_getf (show jm_fe 134 54 = some (jk_getf 4 4) from rfl)
set_option maxRecDepth 20000 in
theorem r_Run_callOutside_57 : je X 134 57 [l0, l1, some (.inl x), l3, l4] S σ = je X 134 58 [l0, l1, some (.inl x), l3, l4] (.inl x :: S) σ := je_iload (show jm_fe 134 57 = some (jk_iload 2 1) from rfl) rfl
set_option maxRecDepth 20000 in
theorem r_Run_callOutside_58 : je X 134 58 [l0, some (.inr r), l2, l3, l4] S σ = je X 134 59 [l0, some (.inr r), l2, l3, l4] (.inr r :: S) σ := je_aload (show jm_fe 134 58 = some (jk_aload 1 1) from rfl) rfl
set_option maxRecDepth 20000 in
theorem r_Run_callOutside_59 : je X 134 59 [l0, l1, l2, some (.inl x), l4] S σ = je X 134 60 [l0, l1, l2, some (.inl x), l4] (.inl x :: S) σ := je_iload (show jm_fe 134 59 = some (jk_iload 3 1) from rfl) rfl
set_option maxRecDepth 20000 in
theorem r_Run_callOutside_60 : je X 134 60 [l0, l1, l2, l3, some (.inl x)] S σ = je X 134 62 [l0, l1, l2, l3, some (.inl x)] (.inl x :: S) σ := je_iload (show jm_fe 134 60 = some (jk_iload 4 2) from rfl) rfl
set_option maxRecDepth 20000 in
theorem r_Run_callOutside_62 (hc : jm_cl σ.1 a = some 8) (h8 : S.length ≤ 8) : je X 134 62 L (v3 :: v2 :: v1 :: v0 :: .inr (.inl (some a)) :: S) σ = je_c X 134 65 L S (je X 99 0 [some (.inr (.inl (some a))), some v0, some v1, some v2, some v3, none, none] [] σ) := je_callV (as := [v0, v1, v2, v3]) (S' := S) (show jm_fe 134 62 = some (jk_callV 99 4 8) from rfl) rfl hc h8
set_option maxRecDepth 20000 in
theorem r_Run_callOutside_65 : je X 134 65 [l0, some (.inr r), l2, l3, l4] S σ = je X 134 66 [l0, some (.inr r), l2, l3, l4] (.inr r :: S) σ := je_aload (show jm_fe 134 65 = some (jk_aload 1 1) from rfl) rfl
set_option maxRecDepth 20000 in
theorem r_Run_callOutside_66 : je X 134 66 [l0, l1, l2, some (.inl x), l4] S σ = je X 134 67 [l0, l1, l2, some (.inl x), l4] (.inl x :: S) σ := je_iload (show jm_fe 134 66 = some (jk_iload 3 1) from rfl) rfl
set_option maxRecDepth 20000 in
theorem r_Run_callOutside_67 : je X 134 67 [l0, l1, l2, l3, some (.inl x)] S σ = je X 134 69 [l0, l1, l2, l3, some (.inl x)] (.inl x :: S) σ := je_iload (show jm_fe 134 67 = some (jk_iload 4 2) from rfl) rfl
set_option maxRecDepth 20000 in
theorem r_Run_callOutside_69 (hc : jm_cl σ.1 a = some 6) (h8 : S.length ≤ 8) : je X 134 69 L (v1 :: v0 :: .inr (.inl (some a)) :: S) σ = je_c X 134 72 L S (je X 81 0 [some (.inr (.inl (some a))), some v0, some v1] [] σ) := je_callV (as := [v0, v1]) (S' := S) (show jm_fe 134 69 = some (jk_callV 81 2 6) from rfl) rfl hc h8
set_option maxRecDepth 20000 in
theorem r_Run_callOutside_72 : je X 134 72 L S σ = je X 134 73 L (.inl 0 :: S) σ := je_const (show jm_fe 134 72 = some (jk_const 0 1) from rfl)
set_option maxRecDepth 20000 in
theorem r_Run_callOutside_73 : je X 134 73 L [.inl p] σ = some (some (.inl p), σ) := je_iret (show jm_fe 134 73 = some (jk_iret) from rfl)
set_option maxRecDepth 20000 in
theorem r_Run_giveBack_0 : je X 135 0 [l0, l1, some (.inl x), l3] S σ = je X 135 1 [l0, l1, some (.inl x), l3] (.inl x :: S) σ := je_iload (show jm_fe 135 0 = some (jk_iload 2 1) from rfl) rfl
set_option maxRecDepth 20000 in
theorem r_Run_giveBack_1 : je X 135 1 L (.inl p :: S) σ = if p = 0 then je X 135 14 L S σ else je X 135 4 L S σ := je_if_eq (show jm_fe 135 1 = some (jk_if .eq 14) from rfl)
set_option maxRecDepth 20000 in
theorem r_Run_giveBack_4 : je X 135 4 [l0, some (.inr r), l2, l3] S σ = je X 135 5 [l0, some (.inr r), l2, l3] (.inr r :: S) σ := je_aload (show jm_fe 135 4 = some (jk_aload 1 1) from rfl) rfl
set_option maxRecDepth 20000 in
theorem r_Run_giveBack_5 : je X 135 5 L (.inr (.inl (some a)) :: S) σ = je_v X 135 8 L S σ (jm_gf σ.1 a 6 2) := je_getf (show jm_fe 135 5 = some (jk_getf 6 2) from rfl)
set_option maxRecDepth 20000 in
theorem r_Run_giveBack_8 : je X 135 8 L S σ = je X 135 9 L (.inl 1 :: S) σ := je_const (show jm_fe 135 8 = some (jk_const 1 1) from rfl)
set_option maxRecDepth 20000 in
theorem r_Run_giveBack_9 : je X 135 9 L (.inl q :: .inl p :: S) σ = if q ≤ p then je X 135 14 L S σ else je X 135 12 L S σ := je_icmp_ge (show jm_fe 135 9 = some (jk_icmp .ge 14) from rfl)
set_option maxRecDepth 20000 in
theorem r_Run_giveBack_12 : je X 135 12 L S σ = je X 135 13 L (.inl 2 :: S) σ := je_const (show jm_fe 135 12 = some (jk_const 2 1) from rfl)
set_option maxRecDepth 20000 in
theorem r_Run_giveBack_13 : je X 135 13 L [.inl p] σ = some (some (.inl p), σ) := je_iret (show jm_fe 135 13 = some (jk_iret) from rfl)
set_option maxRecDepth 20000 in
theorem r_Run_giveBack_14 : je X 135 14 [some (.inr r), l1, l2, l3] S σ = je X 135 15 [some (.inr r), l1, l2, l3] (.inr r :: S) σ := je_aload (show jm_fe 135 14 = some (jk_aload 0 1) from rfl) rfl
set_option maxRecDepth 20000 in
theorem r_Run_giveBack_15 : je X 135 15 L S σ = je X 135 16 L (.inl 1 :: S) σ := je_const (show jm_fe 135 15 = some (jk_const 1 1) from rfl)
set_option maxRecDepth 20000 in
theorem r_Run_giveBack_16 (hc : jm_cl σ.1 a = some 4) (h8 : S.length ≤ 8) : je X 135 16 L (v0 :: .inr (.inl (some a)) :: S) σ = je_c X 135 19 L S (je X 115 0 [some (.inr (.inl (some a))), some v0] [] σ) := je_callV (as := [v0]) (S' := S) (show jm_fe 135 16 = some (jk_callV 115 1 4) from rfl) rfl hc h8
set_option maxRecDepth 20000 in
theorem r_Run_giveBack_19 : je X 135 19 [l0, l1, l2, l3] (.inr r :: S) σ = je X 135 20 [l0, l1, l2, some (.inr r)] S σ := je_astore (show jm_fe 135 19 = some (jk_astore 3 1) from rfl) (Nat.le_of_ble_eq_true rfl)
set_option maxRecDepth 20000 in
theorem r_Run_giveBack_20 : je X 135 20 [l0, l1, l2, some (.inr r)] S σ = je X 135 21 [l0, l1, l2, some (.inr r)] (.inr r :: S) σ := je_aload (show jm_fe 135 20 = some (jk_aload 3 1) from rfl) rfl
set_option maxRecDepth 20000 in
theorem r_Run_giveBack_21 : je X 135 21 L (.inr (.inl o) :: S) σ = if o = none then je X 135 24 L S σ else je X 135 44 L S σ := je_ifnonnull (show jm_fe 135 21 = some (jk_ifnonnull 44) from rfl)
set_option maxRecDepth 20000 in
theorem r_Run_giveBack_24 : je X 135 24 [some (.inr r), l1, l2, l3] S σ = je X 135 25 [some (.inr r), l1, l2, l3] (.inr r :: S) σ := je_aload (show jm_fe 135 24 = some (jk_aload 0 1) from rfl) rfl
set_option maxRecDepth 20000 in
theorem r_Run_giveBack_25 : je X 135 25 L S σ = je X 135 26 L (.inl 0 :: S) σ := je_const (show jm_fe 135 25 = some (jk_const 0 1) from rfl)
set_option maxRecDepth 20000 in
theorem r_Run_giveBack_26 : je X 135 26 [l0, l1, some (.inl x), l3] S σ = je X 135 27 [l0, l1, some (.inl x), l3] (.inl x :: S) σ := je_iload (show jm_fe 135 26 = some (jk_iload 2 1) from rfl) rfl
set_option maxRecDepth 20000 in
theorem r_Run_giveBack_27 : je X 135 27 L (.inl p :: S) σ = if p = 0 then je X 135 38 L S σ else je X 135 30 L S σ := je_if_eq (show jm_fe 135 27 = some (jk_if .eq 38) from rfl)
set_option maxRecDepth 20000 in
theorem r_Run_giveBack_30 : je X 135 30 [l0, some (.inr r), l2, l3] S σ = je X 135 31 [l0, some (.inr r), l2, l3] (.inr r :: S) σ := je_aload (show jm_fe 135 30 = some (jk_aload 1 1) from rfl) rfl
set_option maxRecDepth 20000 in
theorem r_Run_giveBack_31 : je X 135 31 L S σ = je X 135 32 L (.inl 0 :: S) σ := je_const (show jm_fe 135 31 = some (jk_const 0 1) from rfl)
set_option maxRecDepth 20000 in
theorem r_Run_giveBack_32 (hc : jm_cl σ.1 a = some 6) (h8 : S.length ≤ 8) : je X 135 32 L (v0 :: .inr (.inl (some a)) :: S) σ = je_c X 135 35 L S (je X 73 0 [some (.inr (.inl (some a))), some v0] [] σ) := je_callV (as := [v0]) (S' := S) (show jm_fe 135 32 = some (jk_callV 73 1 6) from rfl) rfl hc h8
set_option maxRecDepth 20000 in
theorem r_Run_giveBack_35 : je X 135 35 L S σ = je X 135 39 L S σ := je_goto (show jm_fe 135 35 = some (jk_goto 39) from rfl)
set_option maxRecDepth 20000 in
theorem r_Run_giveBack_38 : je X 135 38 L S σ = je X 135 39 L (.inl 0 :: S) σ := je_const (show jm_fe 135 38 = some (jk_const 0 1) from rfl)
set_option maxRecDepth 20000 in
theorem r_Run_giveBack_39 (hc : jm_cl σ.1 a = some 4) (h8 : S.length ≤ 8) : je X 135 39 L (v1 :: v0 :: .inr (.inl (some a)) :: S) σ = je_c X 135 42 L S (je X 117 0 [some (.inr (.inl (some a))), some v0, some v1] [] σ) := je_callV (as := [v0, v1]) (S' := S) (show jm_fe 135 39 = some (jk_callV 117 2 4) from rfl) rfl hc h8
set_option maxRecDepth 20000 in
theorem r_Run_giveBack_42 : je X 135 42 L S σ = je X 135 43 L (.inl 1 :: S) σ := je_const (show jm_fe 135 42 = some (jk_const 1 1) from rfl)
set_option maxRecDepth 20000 in
theorem r_Run_giveBack_43 : je X 135 43 L [.inl p] σ = some (some (.inl p), σ) := je_iret (show jm_fe 135 43 = some (jk_iret) from rfl)
set_option maxRecDepth 20000 in
theorem r_Run_giveBack_44 : je X 135 44 [l0, l1, some (.inl x), l3] S σ = je X 135 45 [l0, l1, some (.inl x), l3] (.inl x :: S) σ := je_iload (show jm_fe 135 44 = some (jk_iload 2 1) from rfl) rfl
set_option maxRecDepth 20000 in
theorem r_Run_giveBack_45 : je X 135 45 L (.inl p :: S) σ = if p = 0 then je X 135 82 L S σ else je X 135 48 L S σ := je_if_eq (show jm_fe 135 45 = some (jk_if .eq 82) from rfl)
set_option maxRecDepth 20000 in
theorem r_Run_giveBack_48 : je X 135 48 [l0, l1, l2, some (.inr r)] S σ = je X 135 49 [l0, l1, l2, some (.inr r)] (.inr r :: S) σ := je_aload (show jm_fe 135 48 = some (jk_aload 3 1) from rfl) rfl
set_option maxRecDepth 20000 in
theorem r_Run_giveBack_49 : je X 135 49 L (.inr (.inl (some a)) :: S) σ = je_v X 135 52 L S σ (jm_gf σ.1 a 5 0) := je_getf (show jm_fe 135 49 = some (jk_getf 5 0) from rfl)
set_option maxRecDepth 20000 in
theorem r_Run_giveBack_52 (hc : jm_cl σ.1 a = some 6) (h8 : S.length ≤ 8) : je X 135 52 L (.inr (.inl (some a)) :: S) σ = je_c X 135 55 L S (je X 70 0 [some (.inr (.inl (some a)))] [] σ) := je_callV (as := []) (S' := S) (show jm_fe 135 52 = some (jk_callV 70 0 6) from rfl) rfl hc h8
set_option maxRecDepth 20000 in
theorem r_Run_giveBack_55 : je X 135 55 L (.inl p :: S) σ = if p = 0 then je X 135 60 L S σ else je X 135 58 L S σ := je_if_eq (show jm_fe 135 55 = some (jk_if .eq 60) from rfl)
set_option maxRecDepth 20000 in
theorem r_Run_giveBack_58 : je X 135 58 L S σ = je X 135 59 L (.inl 2 :: S) σ := je_const (show jm_fe 135 58 = some (jk_const 2 1) from rfl)
set_option maxRecDepth 20000 in
theorem r_Run_giveBack_59 : je X 135 59 L [.inl p] σ = some (some (.inl p), σ) := je_iret (show jm_fe 135 59 = some (jk_iret) from rfl)
set_option maxRecDepth 20000 in
theorem r_Run_giveBack_60 : je X 135 60 [l0, l1, l2, some (.inr r)] S σ = je X 135 61 [l0, l1, l2, some (.inr r)] (.inr r :: S) σ := je_aload (show jm_fe 135 60 = some (jk_aload 3 1) from rfl) rfl
set_option maxRecDepth 20000 in
theorem r_Run_giveBack_61 : je X 135 61 L (.inr (.inl (some a)) :: S) σ = je_v X 135 64 L S σ (jm_gf σ.1 a 5 0) := je_getf (show jm_fe 135 61 = some (jk_getf 5 0) from rfl)
set_option maxRecDepth 20000 in
theorem r_Run_giveBack_64 : je X 135 64 [l0, some (.inr r), l2, l3] S σ = je X 135 65 [l0, some (.inr r), l2, l3] (.inr r :: S) σ := je_aload (show jm_fe 135 64 = some (jk_aload 1 1) from rfl) rfl
set_option maxRecDepth 20000 in
theorem r_Run_giveBack_65 : je X 135 65 L S σ = je X 135 66 L (.inl 0 :: S) σ := je_const (show jm_fe 135 65 = some (jk_const 0 1) from rfl)
set_option maxRecDepth 20000 in
theorem r_Run_giveBack_66 (hc : jm_cl σ.1 a = some 6) (h8 : S.length ≤ 8) : je X 135 66 L (v0 :: .inr (.inl (some a)) :: S) σ = je_c X 135 69 L S (je X 73 0 [some (.inr (.inl (some a))), some v0] [] σ) := je_callV (as := [v0]) (S' := S) (show jm_fe 135 66 = some (jk_callV 73 1 6) from rfl) rfl hc h8
set_option maxRecDepth 20000 in
theorem r_Run_giveBack_69 : je X 135 69 [l0, some (.inr r), l2, l3] S σ = je X 135 70 [l0, some (.inr r), l2, l3] (.inr r :: S) σ := je_aload (show jm_fe 135 69 = some (jk_aload 1 1) from rfl) rfl
set_option maxRecDepth 20000 in
theorem r_Run_giveBack_70 : je X 135 70 [l0, some (.inr r), l2, l3] S σ = je X 135 71 [l0, some (.inr r), l2, l3] (.inr r :: S) σ := je_aload (show jm_fe 135 70 = some (jk_aload 1 1) from rfl) rfl
set_option maxRecDepth 20000 in
theorem r_Run_giveBack_71 : je X 135 71 L (.inr (.inl (some a)) :: S) σ = je_v X 135 74 L S σ (jm_gf σ.1 a 6 2) := je_getf (show jm_fe 135 71 = some (jk_getf 6 2) from rfl)
set_option maxRecDepth 20000 in
theorem r_Run_giveBack_74 : je X 135 74 L S σ = je X 135 75 L (.inl 1 :: S) σ := je_const (show jm_fe 135 74 = some (jk_const 1 1) from rfl)
set_option maxRecDepth 20000 in
theorem r_Run_giveBack_75 : je X 135 75 L (.inl q :: .inl p :: S) σ = je X 135 76 L (.inl (p - q) :: S) σ := je_bin (show jm_fe 135 75 = some (jb_isub) from rfl)
set_option maxRecDepth 20000 in
theorem r_Run_giveBack_76 (hc : jm_cl σ.1 a = some 6) (h8 : S.length ≤ 8) : je X 135 76 L (v0 :: .inr (.inl (some a)) :: S) σ = je_c X 135 79 L S (je X 72 0 [some (.inr (.inl (some a))), some v0] [] σ) := je_callV (as := [v0]) (S' := S) (show jm_fe 135 76 = some (jk_callV 72 1 6) from rfl) rfl hc h8
set_option maxRecDepth 20000 in
theorem r_Run_giveBack_79 (hc : jm_cl σ.1 a = some 6) (h8 : S.length ≤ 8) : je X 135 79 L (v1 :: v0 :: .inr (.inl (some a)) :: S) σ = je_c X 135 82 L S (je X 78 0 [some (.inr (.inl (some a))), some v0, some v1] [] σ) := je_callV (as := [v0, v1]) (S' := S) (show jm_fe 135 79 = some (jk_callV 78 2 6) from rfl) rfl hc h8
set_option maxRecDepth 20000 in
theorem r_Run_giveBack_82 : je X 135 82 [some (.inr r), l1, l2, l3] S σ = je X 135 83 [some (.inr r), l1, l2, l3] (.inr r :: S) σ := je_aload (show jm_fe 135 82 = some (jk_aload 0 1) from rfl) rfl
set_option maxRecDepth 20000 in
theorem r_Run_giveBack_83 : je X 135 83 L (v :: S) σ = je X 135 84 L (v :: v :: S) σ := je_dup (show jm_fe 135 83 = some (jk_dup) from rfl)
set_option maxRecDepth 20000 in
theorem r_Run_giveBack_84 : je X 135 84 L (.inr (.inl (some a)) :: S) σ = je_v X 135 87 L S σ (jm_gf σ.1 a 4 6) := je_getf (show jm_fe 135 84 = some (jk_getf 4 6) from rfl)
set_option maxRecDepth 20000 in
theorem r_Run_giveBack_87 : je X 135 87 L S σ = je X 135 88 L (.inl 1 :: S) σ := je_const (show jm_fe 135 87 = some (jk_const 1 1) from rfl)
set_option maxRecDepth 20000 in
theorem r_Run_giveBack_88 : je X 135 88 L (.inl q :: .inl p :: S) σ = je X 135 89 L (.inl (p - q) :: S) σ := je_bin (show jm_fe 135 88 = some (jb_isub) from rfl)
set_option maxRecDepth 20000 in
theorem r_Run_giveBack_89 : je X 135 89 L (v :: .inr (.inl (some a)) :: S) σ = je_h X 135 92 L S σ.2 (jm_pf σ.1 a 4 6 0 v) := je_putf (show jm_fe 135 89 = some (jk_putf 4 6 0) from rfl)
set_option maxRecDepth 20000 in
theorem r_Run_giveBack_92 : je X 135 92 [l0, l1, l2, some (.inr r)] S σ = je X 135 93 [l0, l1, l2, some (.inr r)] (.inr r :: S) σ := je_aload (show jm_fe 135 92 = some (jk_aload 3 1) from rfl) rfl
set_option maxRecDepth 20000 in
theorem r_Run_giveBack_93 : je X 135 93 L (v :: S) σ = je X 135 94 L (v :: v :: S) σ := je_dup (show jm_fe 135 93 = some (jk_dup) from rfl)
set_option maxRecDepth 20000 in
theorem r_Run_giveBack_94 : je X 135 94 L (.inr (.inl (some a)) :: S) σ = je_v X 135 97 L S σ (jm_gf σ.1 a 5 3) := je_getf (show jm_fe 135 94 = some (jk_getf 5 3) from rfl)
set_option maxRecDepth 20000 in
theorem r_Run_giveBack_97 : je X 135 97 L S σ = je X 135 98 L (.inl 1 :: S) σ := je_const (show jm_fe 135 97 = some (jk_const 1 1) from rfl)
set_option maxRecDepth 20000 in
theorem r_Run_giveBack_98 : je X 135 98 L (.inl q :: .inl p :: S) σ = je X 135 99 L (.inl (p + q) :: S) σ := je_bin (show jm_fe 135 98 = some (jb_iadd) from rfl)
set_option maxRecDepth 20000 in
theorem r_Run_giveBack_99 : je X 135 99 L (v :: .inr (.inl (some a)) :: S) σ = je_h X 135 102 L S σ.2 (jm_pf σ.1 a 5 3 0 v) := je_putf (show jm_fe 135 99 = some (jk_putf 5 3 0) from rfl)
set_option maxRecDepth 20000 in
theorem r_Run_giveBack_102 : je X 135 102 L S σ = je X 135 103 L (.inl 1 :: S) σ := je_const (show jm_fe 135 102 = some (jk_const 1 1) from rfl)
set_option maxRecDepth 20000 in
theorem r_Run_giveBack_103 : je X 135 103 L [.inl p] σ = some (some (.inl p), σ) := je_iret (show jm_fe 135 103 = some (jk_iret) from rfl)
set_option maxRecDepth 20000 in
theorem r_Run_throwTop_0 : je X 136 0 [l0, some (.inr r)] S σ = je X 136 1 [l0, some (.inr r)] (.inr r :: S) σ := je_aload (show jm_fe 136 0 = some (jk_aload 1 1) from rfl) rfl
set_option maxRecDepth 20000 in
theorem r_Run_throwTop_1 : je X 136 1 L S σ = je X 136 2 L (.inl 0 :: S) σ := je_const (show jm_fe 136 1 = some (jk_const 0 1) from rfl)
set_option maxRecDepth 20000 in
theorem r_Run_throwTop_2 (hc : jm_cl σ.1 a = some 6) (h8 : S.length ≤ 8) : je X 136 2 L (v0 :: .inr (.inl (some a)) :: S) σ = je_c X 136 5 L S (je X 74 0 [some (.inr (.inl (some a))), some v0] [] σ) := je_callV (as := [v0]) (S' := S) (show jm_fe 136 2 = some (jk_callV 74 1 6) from rfl) rfl hc h8
set_option maxRecDepth 20000 in
theorem r_Run_throwTop_5 : je X 136 5 L (.inl p :: S) σ = if p = 0 then je X 136 20 L S σ else je X 136 8 L S σ := je_if_eq (show jm_fe 136 5 = some (jk_if .eq 20) from rfl)
set_option maxRecDepth 20000 in
theorem r_Run_throwTop_8 : je X 136 8 [some (.inr r), l1] S σ = je X 136 9 [some (.inr r), l1] (.inr r :: S) σ := je_aload (show jm_fe 136 8 = some (jk_aload 0 1) from rfl) rfl
set_option maxRecDepth 20000 in
theorem r_Run_throwTop_9 : je X 136 9 [l0, some (.inr r)] S σ = je X 136 10 [l0, some (.inr r)] (.inr r :: S) σ := je_aload (show jm_fe 136 9 = some (jk_aload 1 1) from rfl) rfl
set_option maxRecDepth 20000 in
theorem r_Run_throwTop_10 : je X 136 10 L S σ = je X 136 11 L (.inl 0 :: S) σ := je_const (show jm_fe 136 10 = some (jk_const 0 1) from rfl)
set_option maxRecDepth 20000 in
theorem r_Run_throwTop_11 (hc : jm_cl σ.1 a = some 6) (h8 : S.length ≤ 8) : je X 136 11 L (v0 :: .inr (.inl (some a)) :: S) σ = je_c X 136 14 L S (je X 73 0 [some (.inr (.inl (some a))), some v0] [] σ) := je_callV (as := [v0]) (S' := S) (show jm_fe 136 11 = some (jk_callV 73 1 6) from rfl) rfl hc h8
set_option maxRecDepth 20000 in
theorem r_Run_throwTop_14 (hc : jm_cl σ.1 a = some 4) (h8 : S.length ≤ 8) : je X 136 14 L (v0 :: .inr (.inl (some a)) :: S) σ = je_c X 136 17 L S (je X 137 0 [some (.inr (.inl (some a))), some v0] [] σ) := je_callV (as := [v0]) (S' := S) (show jm_fe 136 14 = some (jk_callV 137 1 4) from rfl) rfl hc h8
set_option maxRecDepth 20000 in
theorem r_Run_throwTop_17 : je X 136 17 L S σ = je X 136 21 L S σ := je_goto (show jm_fe 136 17 = some (jk_goto 21) from rfl)
set_option maxRecDepth 20000 in
theorem r_Run_throwTop_20 : je X 136 20 L S σ = je X 136 21 L (.inl 2 :: S) σ := je_const (show jm_fe 136 20 = some (jk_const 2 1) from rfl)
set_option maxRecDepth 20000 in
theorem r_Run_throwTop_21 : je X 136 21 L [.inl p] σ = some (some (.inl p), σ) := je_iret (show jm_fe 136 21 = some (jk_iret) from rfl)
set_option maxRecDepth 20000 in
theorem r_Run_raise_0 : je X 137 0 [some (.inr r), l1] S σ = je X 137 1 [some (.inr r), l1] (.inr r :: S) σ := je_aload (show jm_fe 137 0 = some (jk_aload 0 1) from rfl) rfl
set_option maxRecDepth 20000 in
theorem r_Run_raise_1 : je X 137 1 [l0, some (.inl x)] S σ = je X 137 2 [l0, some (.inl x)] (.inl x :: S) σ := je_iload (show jm_fe 137 1 = some (jk_iload 1 1) from rfl) rfl
set_option maxRecDepth 20000 in
theorem r_Run_raise_2 : je X 137 2 L (v :: .inr (.inl (some a)) :: S) σ = je_h X 137 5 L S σ.2 (jm_pf σ.1 a 4 11 0 v) := je_putf (show jm_fe 137 2 = some (jk_putf 4 11 0) from rfl)
set_option maxRecDepth 20000 in
theorem r_Run_raise_5 : je X 137 5 L S σ = je X 137 6 L (.inl 3 :: S) σ := je_const (show jm_fe 137 5 = some (jk_const 3 1) from rfl)
set_option maxRecDepth 20000 in
theorem r_Run_raise_6 : je X 137 6 L [.inl p] σ = some (some (.inl p), σ) := je_iret (show jm_fe 137 6 = some (jk_iret) from rfl)
set_option maxRecDepth 20000 in
theorem r_Run_unwind_0 : je X 138 0 [some (.inr r), l1, l2, l3] S σ = je X 138 1 [some (.inr r), l1, l2, l3] (.inr r :: S) σ := je_aload (show jm_fe 138 0 = some (jk_aload 0 1) from rfl) rfl
set_option maxRecDepth 20000 in
theorem r_Run_unwind_1 : je X 138 1 L (.inr (.inl (some a)) :: S) σ = je_v X 138 4 L S σ (jm_gf σ.1 a 4 6) := je_getf (show jm_fe 138 1 = some (jk_getf 4 6) from rfl)
set_option maxRecDepth 20000 in
theorem r_Run_unwind_4 : je X 138 4 L (.inl p :: S) σ = if p ≤ 0 then je X 138 82 L S σ else je X 138 7 L S σ := je_if_le (show jm_fe 138 4 = some (jk_if .le 82) from rfl)
set_option maxRecDepth 20000 in
theorem r_Run_unwind_7 : je X 138 7 [some (.inr r), l1, l2, l3] S σ = je X 138 8 [some (.inr r), l1, l2, l3] (.inr r :: S) σ := je_aload (show jm_fe 138 7 = some (jk_aload 0 1) from rfl) rfl
set_option maxRecDepth 20000 in
theorem r_Run_unwind_8 : je X 138 8 L S σ = je X 138 9 L (.inl 0 :: S) σ := je_const (show jm_fe 138 8 = some (jk_const 0 1) from rfl)
set_option maxRecDepth 20000 in
theorem r_Run_unwind_9 (hc : jm_cl σ.1 a = some 4) (h8 : S.length ≤ 8) : je X 138 9 L (v0 :: .inr (.inl (some a)) :: S) σ = je_c X 138 12 L S (je X 115 0 [some (.inr (.inl (some a))), some v0] [] σ) := je_callV (as := [v0]) (S' := S) (show jm_fe 138 9 = some (jk_callV 115 1 4) from rfl) rfl hc h8
set_option maxRecDepth 20000 in
theorem r_Run_unwind_12 : je X 138 12 [l0, l1, l2, l3] (.inr r :: S) σ = je X 138 13 [l0, some (.inr r), l2, l3] S σ := je_astore (show jm_fe 138 12 = some (jk_astore 1 1) from rfl) (Nat.le_of_ble_eq_true rfl)
set_option maxRecDepth 20000 in
theorem r_Run_unwind_13 : je X 138 13 [l0, some (.inr r), l2, l3] S σ = je X 138 14 [l0, some (.inr r), l2, l3] (.inr r :: S) σ := je_aload (show jm_fe 138 13 = some (jk_aload 1 1) from rfl) rfl
set_option maxRecDepth 20000 in
theorem r_Run_unwind_14 : je X 138 14 L (.inr (.inl o) :: S) σ = if o = none then je X 138 17 L S σ else je X 138 21 L S σ := je_ifnonnull (show jm_fe 138 14 = some (jk_ifnonnull 21) from rfl)
set_option maxRecDepth 20000 in
theorem r_Run_unwind_17 : je X 138 17 L S σ = je X 138 18 L (.inr (.inl none) :: S) σ := je_null (show jm_fe 138 17 = some (jk_null) from rfl)
set_option maxRecDepth 20000 in
theorem r_Run_unwind_18 : je X 138 18 L S σ = je X 138 32 L S σ := je_goto (show jm_fe 138 18 = some (jk_goto 32) from rfl)
set_option maxRecDepth 20000 in
theorem r_Run_unwind_21 : je X 138 21 [some (.inr r), l1, l2, l3] S σ = je X 138 22 [some (.inr r), l1, l2, l3] (.inr r :: S) σ := je_aload (show jm_fe 138 21 = some (jk_aload 0 1) from rfl) rfl
set_option maxRecDepth 20000 in
theorem r_Run_unwind_22 : je X 138 22 L (.inr (.inl (some a)) :: S) σ = je_v X 138 25 L S σ (jm_gf σ.1 a 4 0) := je_getf (show jm_fe 138 22 = some (jk_getf 4 0) from rfl)
set_option maxRecDepth 20000 in
theorem r_Run_unwind_25 : je X 138 25 [l0, some (.inr r), l2, l3] S σ = je X 138 26 [l0, some (.inr r), l2, l3] (.inr r :: S) σ := je_aload (show jm_fe 138 25 = some (jk_aload 1 1) from rfl) rfl
set_option maxRecDepth 20000 in
theorem r_Run_unwind_26 : je X 138 26 L (.inr (.inl (some a)) :: S) σ = je_v X 138 29 L S σ (jm_gf σ.1 a 5 2) := je_getf (show jm_fe 138 26 = some (jk_getf 5 2) from rfl)
set_option maxRecDepth 20000 in
theorem r_Run_unwind_29 (hc : jm_cl σ.1 a = some 1) (h8 : S.length ≤ 8) : je X 138 29 L (v0 :: .inr (.inl (some a)) :: S) σ = je_c X 138 32 L S (je X 104 0 [some (.inr (.inl (some a))), some v0] [] σ) := je_callV (as := [v0]) (S' := S) (show jm_fe 138 29 = some (jk_callV 104 1 1) from rfl) rfl hc h8
set_option maxRecDepth 20000 in
theorem r_Run_unwind_32 : je X 138 32 [l0, l1, l2, l3] (.inr r :: S) σ = je X 138 33 [l0, l1, some (.inr r), l3] S σ := je_astore (show jm_fe 138 32 = some (jk_astore 2 1) from rfl) (Nat.le_of_ble_eq_true rfl)
set_option maxRecDepth 20000 in
theorem r_Run_unwind_33 : je X 138 33 [l0, l1, some (.inr r), l3] S σ = je X 138 34 [l0, l1, some (.inr r), l3] (.inr r :: S) σ := je_aload (show jm_fe 138 33 = some (jk_aload 2 1) from rfl) rfl
set_option maxRecDepth 20000 in
theorem r_Run_unwind_34 : je X 138 34 L (.inr (.inl o) :: S) σ = if o = none then je X 138 37 L S σ else je X 138 41 L S σ := je_ifnonnull (show jm_fe 138 34 = some (jk_ifnonnull 41) from rfl)
set_option maxRecDepth 20000 in
theorem r_Run_unwind_37 : je X 138 37 L S σ = je X 138 38 L (.inl (-1) :: S) σ := je_const (show jm_fe 138 37 = some (jk_const (-1) 1) from rfl)
set_option maxRecDepth 20000 in
theorem r_Run_unwind_38 : je X 138 38 L S σ = je X 138 53 L S σ := je_goto (show jm_fe 138 38 = some (jk_goto 53) from rfl)
set_option maxRecDepth 20000 in
theorem r_Run_unwind_41 : je X 138 41 [l0, l1, some (.inr r), l3] S σ = je X 138 42 [l0, l1, some (.inr r), l3] (.inr r :: S) σ := je_aload (show jm_fe 138 41 = some (jk_aload 2 1) from rfl) rfl
set_option maxRecDepth 20000 in
theorem r_Run_unwind_42 : je X 138 42 [l0, some (.inr r), l2, l3] S σ = je X 138 43 [l0, some (.inr r), l2, l3] (.inr r :: S) σ := je_aload (show jm_fe 138 42 = some (jk_aload 1 1) from rfl) rfl
set_option maxRecDepth 20000 in
theorem r_Run_unwind_43 : je X 138 43 L (.inr (.inl (some a)) :: S) σ = je_v X 138 46 L S σ (jm_gf σ.1 a 5 3) := je_getf (show jm_fe 138 43 = some (jk_getf 5 3) from rfl)
set_option maxRecDepth 20000 in
theorem r_Run_unwind_46 : je X 138 46 [some (.inr r), l1, l2, l3] S σ = je X 138 47 [some (.inr r), l1, l2, l3] (.inr r :: S) σ := je_aload (show jm_fe 138 46 = some (jk_aload 0 1) from rfl) rfl
set_option maxRecDepth 20000 in
theorem r_Run_unwind_47 : je X 138 47 L (.inr (.inl (some a)) :: S) σ = je_v X 138 50 L S σ (jm_gf σ.1 a 4 11) := je_getf (show jm_fe 138 47 = some (jk_getf 4 11) from rfl)
set_option maxRecDepth 20000 in
theorem r_Run_unwind_50 (hc : jm_cl σ.1 a = some 2) (h8 : S.length ≤ 8) : je X 138 50 L (v1 :: v0 :: .inr (.inl (some a)) :: S) σ = je_c X 138 53 L S (je X 94 0 [some (.inr (.inl (some a))), some v0, some v1, none, none] [] σ) := je_callV (as := [v0, v1]) (S' := S) (show jm_fe 138 50 = some (jk_callV 94 2 2) from rfl) rfl hc h8
set_option maxRecDepth 20000 in
theorem r_Run_unwind_53 : je X 138 53 [l0, l1, l2, l3] (.inl x :: S) σ = je X 138 54 [l0, l1, l2, some (.inl x)] S σ := je_istore (show jm_fe 138 53 = some (jk_istore 3 1) from rfl) (Nat.le_of_ble_eq_true rfl)
set_option maxRecDepth 20000 in
theorem r_Run_unwind_54 : je X 138 54 [l0, l1, l2, some (.inl x)] S σ = je X 138 55 [l0, l1, l2, some (.inl x)] (.inl x :: S) σ := je_iload (show jm_fe 138 54 = some (jk_iload 3 1) from rfl) rfl
set_option maxRecDepth 20000 in
theorem r_Run_unwind_55 : je X 138 55 L S σ = je X 138 56 L (.inl (-1) :: S) σ := je_const (show jm_fe 138 55 = some (jk_const (-1) 1) from rfl)
set_option maxRecDepth 20000 in
theorem r_Run_unwind_56 : je X 138 56 L (.inl q :: .inl p :: S) σ = if p = q then je X 138 69 L S σ else je X 138 59 L S σ := je_icmp_eq (show jm_fe 138 56 = some (jk_icmp .eq 69) from rfl)
set_option maxRecDepth 20000 in
theorem r_Run_unwind_59 : je X 138 59 [l0, some (.inr r), l2, l3] S σ = je X 138 60 [l0, some (.inr r), l2, l3] (.inr r :: S) σ := je_aload (show jm_fe 138 59 = some (jk_aload 1 1) from rfl) rfl
set_option maxRecDepth 20000 in
theorem r_Run_unwind_60 : je X 138 60 [some (.inr r), l1, l2, l3] S σ = je X 138 61 [some (.inr r), l1, l2, l3] (.inr r :: S) σ := je_aload (show jm_fe 138 60 = some (jk_aload 0 1) from rfl) rfl
set_option maxRecDepth 20000 in
theorem r_Run_unwind_61 : je X 138 61 L (.inr (.inl (some a)) :: S) σ = je_v X 138 64 L S σ (jm_gf σ.1 a 4 11) := je_getf (show jm_fe 138 61 = some (jk_getf 4 11) from rfl)
set_option maxRecDepth 20000 in
theorem r_Run_unwind_64 : je X 138 64 [l0, l1, l2, some (.inl x)] S σ = je X 138 65 [l0, l1, l2, some (.inl x)] (.inl x :: S) σ := je_iload (show jm_fe 138 64 = some (jk_iload 3 1) from rfl) rfl
set_option maxRecDepth 20000 in
theorem r_Run_unwind_65 (hc : jm_cl σ.1 a = some 5) (h8 : S.length ≤ 8) : je X 138 65 L (v1 :: v0 :: .inr (.inl (some a)) :: S) σ = je_c X 138 68 L S (je X 85 0 [some (.inr (.inl (some a))), some v0, some v1] [] σ) := je_callV (as := [v0, v1]) (S' := S) (show jm_fe 138 65 = some (jk_callV 85 2 5) from rfl) rfl hc h8
set_option maxRecDepth 20000 in
theorem r_Run_unwind_68 : je X 138 68 L [] σ = some (none, σ) := je_ret (show jm_fe 138 68 = some (jk_ret) from rfl)
set_option maxRecDepth 20000 in
theorem r_Run_unwind_69 : je X 138 69 [some (.inr r), l1, l2, l3] S σ = je X 138 70 [some (.inr r), l1, l2, l3] (.inr r :: S) σ := je_aload (show jm_fe 138 69 = some (jk_aload 0 1) from rfl) rfl
set_option maxRecDepth 20000 in
theorem r_Run_unwind_70 : je X 138 70 L (v :: S) σ = je X 138 71 L (v :: v :: S) σ := je_dup (show jm_fe 138 70 = some (jk_dup) from rfl)
set_option maxRecDepth 20000 in
theorem r_Run_unwind_71 : je X 138 71 L (.inr (.inl (some a)) :: S) σ = je_v X 138 74 L S σ (jm_gf σ.1 a 4 6) := je_getf (show jm_fe 138 71 = some (jk_getf 4 6) from rfl)
set_option maxRecDepth 20000 in
theorem r_Run_unwind_74 : je X 138 74 L S σ = je X 138 75 L (.inl 1 :: S) σ := je_const (show jm_fe 138 74 = some (jk_const 1 1) from rfl)
set_option maxRecDepth 20000 in
theorem r_Run_unwind_75 : je X 138 75 L (.inl q :: .inl p :: S) σ = je X 138 76 L (.inl (p - q) :: S) σ := je_bin (show jm_fe 138 75 = some (jb_isub) from rfl)
set_option maxRecDepth 20000 in
theorem r_Run_unwind_76 : je X 138 76 L (v :: .inr (.inl (some a)) :: S) σ = je_h X 138 79 L S σ.2 (jm_pf σ.1 a 4 6 0 v) := je_putf (show jm_fe 138 76 = some (jk_putf 4 6 0) from rfl)
set_option maxRecDepth 20000 in
theorem r_Run_unwind_79 : je X 138 79 L S σ = je X 138 0 L S σ := je_goto (show jm_fe 138 79 = some (jk_goto 0) from rfl)
set_option maxRecDepth 20000 in
theorem r_Run_unwind_82 : je X 138 82 [some (.inr r), l1, l2, l3] S σ = je X 138 83 [some (.inr r), l1, l2, l3] (.inr r :: S) σ := je_aload (show jm_fe 138 82 = some (jk_aload 0 1) from rfl) rfl
set_option maxRecDepth 20000 in
theorem r_Run_unwind_83 : je X 138 83 L S σ = je X 138 84 L (.inl 1 :: S) σ := je_const (show jm_fe 138 83 = some (jk_const 1 1) from rfl)
set_option maxRecDepth 20000 in
theorem r_Run_unwind_84 : je X 138 84 [some (.inr r), l1, l2, l3] S σ = je X 138 85 [some (.inr r), l1, l2, l3] (.inr r :: S) σ := je_aload (show jm_fe 138 84 = some (jk_aload 0 1) from rfl) rfl
set_option maxRecDepth 20000 in
theorem r_Run_unwind_85 : je X 138 85 L (.inr (.inl (some a)) :: S) σ = je_v X 138 88 L S σ (jm_gf σ.1 a 4 11) := je_getf (show jm_fe 138 85 = some (jk_getf 4 11) from rfl)
set_option maxRecDepth 20000 in
theorem r_Run_unwind_88 (hc : jm_cl σ.1 a = some 4) (h8 : S.length ≤ 8) : je X 138 88 L (v1 :: v0 :: .inr (.inl (some a)) :: S) σ = je_c X 138 91 L S (je X 117 0 [some (.inr (.inl (some a))), some v0, some v1] [] σ) := je_callV (as := [v0, v1]) (S' := S) (show jm_fe 138 88 = some (jk_callV 117 2 4) from rfl) rfl hc h8
set_option maxRecDepth 20000 in
theorem r_Run_unwind_91 : je X 138 91 L [] σ = some (none, σ) := je_ret (show jm_fe 138 91 = some (jk_ret) from rfl)
end JR
