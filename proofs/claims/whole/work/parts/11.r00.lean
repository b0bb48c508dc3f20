section JR
variable {X : jm_X} {L : jm_L} {S : List jm_V} {σ : jm_S} {l0 l1 l2 l3 l4 l5 l6 l7 : Option jm_V} {x p q : Int32} {a : Nat} {r : Option Nat ⊕ Unit} {o : Option Nat} {u : Unit} {v w v0 v1 v2 v3 v4 v5 : jm_V}
theorem r_law_law_16 : je X 0 16 L S σ = je X 0 17 L (.inl 0 :: S) σ := je_const (show jm_fe 0 16 = some (jk_const 0 1) from rfl)
theorem r_law_law_17 : je X 0 17 [l0, l1, l2, l3] (.inl x :: S) σ = je X 0 18 [l0, l1, l2, some (.inl x)] S σ := je_istore (show jm_fe 0 17 = some (jk_istore 3 1) from rfl) (Nat.le_of_ble_eq_true rfl)
theorem r_law_law_18 : je X 0 18 [l0, l1, l2, some (.inl x)] S σ = je X 0 19 [l0, l1, l2, some (.inl x)] (.inl x :: S) σ := je_iload (show jm_fe 0 18 = some (jk_iload 3 1) from rfl) rfl
theorem r_law_law_19 : je X 0 19 [some (.inr r), l1, l2, l3] S σ = je X 0 20 [some (.inr r), l1, l2, l3] (.inr r :: S) σ := je_aload (show jm_fe 0 19 = some (jk_aload 0 1) from rfl) rfl
theorem r_law_law_20 : je X 0 20 L (.inr (.inr u) :: S) σ = je X 0 21 L (.inl (Int32.ofNat X.1) :: S) σ := je_slen (show jm_fe 0 20 = some (jk_slen) from rfl)
theorem r_law_law_21 : je X 0 21 L S σ = je X 0 22 L (.inl 5 :: S) σ := je_const (show jm_fe 0 21 = some (jk_const 5 1) from rfl)
theorem r_law_law_22 : je X 0 22 L (.inl q :: .inl p :: S) σ = je X 0 23 L (.inl (p - q) :: S) σ := je_bin (show jm_fe 0 22 = some (jb_isub) from rfl)
theorem r_law_law_23 : je X 0 23 L (.inl q :: .inl p :: S) σ = if q < p then je X 0 662 L S σ else je X 0 26 L S σ := je_icmp_gt (show jm_fe 0 23 = some (jk_icmp .gt 662) from rfl)
theorem r_law_law_26 : je X 0 26 [some (.inr r), l1, l2, l3] S σ = je X 0 27 [some (.inr r), l1, l2, l3] (.inr r :: S) σ := je_aload (show jm_fe 0 26 = some (jk_aload 0 1) from rfl) rfl
theorem r_law_law_27 : je X 0 27 [l0, l1, l2, some (.inl x)] S σ = je X 0 28 [l0, l1, l2, some (.inl x)] (.inl x :: S) σ := je_iload (show jm_fe 0 27 = some (jk_iload 3 1) from rfl) rfl
theorem r_law_law_28 (hi : jm_in p X.1 = true) : je X 0 28 L (.inl p :: .inr (.inr u) :: S) σ = je X 0 29 L (.inl (X.2 p.toNatClampNeg) :: S) σ := je_sld (show jm_fe 0 28 = some (jk_sld) from rfl) hi
theorem r_law_law_29 : je X 0 29 L S σ = je X 0 31 L (.inl 15 :: S) σ := je_const (show jm_fe 0 29 = some (jk_const (15) 2) from rfl)
theorem r_law_law_31 : je X 0 31 L (.inl q :: .inl p :: S) σ = je X 0 32 L (.inl (p &&& q) :: S) σ := je_bin (show jm_fe 0 31 = some (jb_iand) from rfl)
theorem r_law_law_32 : je X 0 32 L (.inl p :: S) σ = je X 0 (jm_sw [(0, 112), (1, 155), (2, 198), (3, 251), (4, 304), (5, 337), (6, 348), (7, 371), (8, 382), (9, 393), (10, 416), (11, 449), (12, 508), (13, 567), (14, 600), (15, 633)] 656 p) L S σ := je_sw (show jm_fe 0 32 = some (jk_sw [(0, 112), (1, 155), (2, 198), (3, 251), (4, 304), (5, 337), (6, 348), (7, 371), (8, 382), (9, 393), (10, 416), (11, 449), (12, 508), (13, 567), (14, 600), (15, 633)] 656) from rfl)
theorem r_law_law_112 : je X 0 112 [l0, some (.inr r), l2, l3] S σ = je X 0 113 [l0, some (.inr r), l2, l3] (.inr r :: S) σ := je_aload (show jm_fe 0 112 = some (jk_aload 1 1) from rfl) rfl
theorem r_law_law_113 : je X 0 113 [some (.inr r), l1, l2, l3] S σ = je X 0 114 [some (.inr r), l1, l2, l3] (.inr r :: S) σ := je_aload (show jm_fe 0 113 = some (jk_aload 0 1) from rfl) rfl
theorem r_law_law_114 : je X 0 114 [l0, l1, l2, some (.inl x)] S σ = je X 0 115 [l0, l1, l2, some (.inl x)] (.inl x :: S) σ := je_iload (show jm_fe 0 114 = some (jk_iload 3 1) from rfl) rfl
theorem r_law_law_115 : je X 0 115 L S σ = je X 0 116 L (.inl 1 :: S) σ := je_const (show jm_fe 0 115 = some (jk_const 1 1) from rfl)
theorem r_law_law_116 : je X 0 116 L (.inl q :: .inl p :: S) σ = je X 0 117 L (.inl (p + q) :: S) σ := je_bin (show jm_fe 0 116 = some (jb_iadd) from rfl)
theorem r_law_law_117 (hi : jm_in p X.1 = true) : je X 0 117 L (.inl p :: .inr (.inr u) :: S) σ = je X 0 118 L (.inl (X.2 p.toNatClampNeg) :: S) σ := je_sld (show jm_fe 0 117 = some (jk_sld) from rfl) hi
theorem r_law_law_118 : je X 0 118 [some (.inr r), l1, l2, l3] S σ = je X 0 119 [some (.inr r), l1, l2, l3] (.inr r :: S) σ := je_aload (show jm_fe 0 118 = some (jk_aload 0 1) from rfl) rfl
theorem r_law_law_119 : je X 0 119 [l0, l1, l2, some (.inl x)] S σ = je X 0 120 [l0, l1, l2, some (.inl x)] (.inl x :: S) σ := je_iload (show jm_fe 0 119 = some (jk_iload 3 1) from rfl) rfl
theorem r_law_law_120 : je X 0 120 L S σ = je X 0 121 L (.inl 2 :: S) σ := je_const (show jm_fe 0 120 = some (jk_const 2 1) from rfl)
theorem r_law_law_121 : je X 0 121 L (.inl q :: .inl p :: S) σ = je X 0 122 L (.inl (p + q) :: S) σ := je_bin (show jm_fe 0 121 = some (jb_iadd) from rfl)
theorem r_law_law_122 (hi : jm_in p X.1 = true) : je X 0 122 L (.inl p :: .inr (.inr u) :: S) σ = je X 0 123 L (.inl (X.2 p.toNatClampNeg) :: S) σ := je_sld (show jm_fe 0 122 = some (jk_sld) from rfl) hi
theorem r_law_law_123 : je X 0 123 [some (.inr r), l1, l2, l3] S σ = je X 0 124 [some (.inr r), l1, l2, l3] (.inr r :: S) σ := je_aload (show jm_fe 0 123 = some (jk_aload 0 1) from rfl) rfl
theorem r_law_law_124 : je X 0 124 [l0, l1, l2, some (.inl x)] S σ = je X 0 125 [l0, l1, l2, some (.inl x)] (.inl x :: S) σ := je_iload (show jm_fe 0 124 = some (jk_iload 3 1) from rfl) rfl
theorem r_law_law_125 : je X 0 125 L S σ = je X 0 126 L (.inl 3 :: S) σ := je_const (show jm_fe 0 125 = some (jk_const 3 1) from rfl)
theorem r_law_law_126 : je X 0 126 L (.inl q :: .inl p :: S) σ = je X 0 127 L (.inl (p + q) :: S) σ := je_bin (show jm_fe 0 126 = some (jb_iadd) from rfl)
theorem r_law_law_127 (hi : jm_in p X.1 = true) : je X 0 127 L (.inl p :: .inr (.inr u) :: S) σ = je X 0 128 L (.inl (X.2 p.toNatClampNeg) :: S) σ := je_sld (show jm_fe 0 127 = some (jk_sld) from rfl) hi
theorem r_law_law_128 (hc : jm_cl σ.1 a = some 0) (h8 : S.length ≤ 8) : je X 0 128 L (v2 :: v1 :: v0 :: .inr (.inl (some a)) :: S) σ = je_c X 0 131 L S (je X 2 0 [some (.inr (.inl (some a))), some v0, some v1, some v2, none] [] σ) := je_callV (as := [v0, v1, v2]) (S' := S) (show jm_fe 0 128 = some (jk_callV 2 3 0) from rfl) rfl hc h8
theorem r_law_law_131 : je X 0 131 [l0, l1, some (.inr r), l3] S σ = je X 0 132 [l0, l1, some (.inr r), l3] (.inr r :: S) σ := je_aload (show jm_fe 0 131 = some (jk_aload 2 1) from rfl) rfl
theorem r_law_law_132 : je X 0 132 [some (.inr r), l1, l2, l3] S σ = je X 0 133 [some (.inr r), l1, l2, l3] (.inr r :: S) σ := je_aload (show jm_fe 0 132 = some (jk_aload 0 1) from rfl) rfl
theorem r_law_law_133 : je X 0 133 [l0, l1, l2, some (.inl x)] S σ = je X 0 134 [l0, l1, l2, some (.inl x)] (.inl x :: S) σ := je_iload (show jm_fe 0 133 = some (jk_iload 3 1) from rfl) rfl
theorem r_law_law_134 : je X 0 134 L S σ = je X 0 135 L (.inl 1 :: S) σ := je_const (show jm_fe 0 134 = some (jk_const 1 1) from rfl)
theorem r_law_law_135 : je X 0 135 L (.inl q :: .inl p :: S) σ = je X 0 136 L (.inl (p + q) :: S) σ := je_bin (show jm_fe 0 135 = some (jb_iadd) from rfl)
theorem r_law_law_136 (hi : jm_in p X.1 = true) : je X 0 136 L (.inl p :: .inr (.inr u) :: S) σ = je X 0 137 L (.inl (X.2 p.toNatClampNeg) :: S) σ := je_sld (show jm_fe 0 136 = some (jk_sld) from rfl) hi
theorem r_law_law_137 : je X 0 137 [some (.inr r), l1, l2, l3] S σ = je X 0 138 [some (.inr r), l1, l2, l3] (.inr r :: S) σ := je_aload (show jm_fe 0 137 = some (jk_aload 0 1) from rfl) rfl
theorem r_law_law_138 : je X 0 138 [l0, l1, l2, some (.inl x)] S σ = je X 0 139 [l0, l1, l2, some (.inl x)] (.inl x :: S) σ := je_iload (show jm_fe 0 138 = some (jk_iload 3 1) from rfl) rfl
theorem r_law_law_139 : je X 0 139 L S σ = je X 0 140 L (.inl 2 :: S) σ := je_const (show jm_fe 0 139 = some (jk_const 2 1) from rfl)
theorem r_law_law_140 : je X 0 140 L (.inl q :: .inl p :: S) σ = je X 0 141 L (.inl (p + q) :: S) σ := je_bin (show jm_fe 0 140 = some (jb_iadd) from rfl)
theorem r_law_law_141 (hi : jm_in p X.1 = true) : je X 0 141 L (.inl p :: .inr (.inr u) :: S) σ = je X 0 142 L (.inl (X.2 p.toNatClampNeg) :: S) σ := je_sld (show jm_fe 0 141 = some (jk_sld) from rfl) hi
theorem r_law_law_142 : je X 0 142 [some (.inr r), l1, l2, l3] S σ = je X 0 143 [some (.inr r), l1, l2, l3] (.inr r :: S) σ := je_aload (show jm_fe 0 142 = some (jk_aload 0 1) from rfl) rfl
theorem r_law_law_143 : je X 0 143 [l0, l1, l2, some (.inl x)] S σ = je X 0 144 [l0, l1, l2, some (.inl x)] (.inl x :: S) σ := je_iload (show jm_fe 0 143 = some (jk_iload 3 1) from rfl) rfl
theorem r_law_law_144 : je X 0 144 L S σ = je X 0 145 L (.inl 3 :: S) σ := je_const (show jm_fe 0 144 = some (jk_const 3 1) from rfl)
theorem r_law_law_145 : je X 0 145 L (.inl q :: .inl p :: S) σ = je X 0 146 L (.inl (p + q) :: S) σ := je_bin (show jm_fe 0 145 = some (jb_iadd) from rfl)
theorem r_law_law_146 (hi : jm_in p X.1 = true) : je X 0 146 L (.inl p :: .inr (.inr u) :: S) σ = je X 0 147 L (.inl (X.2 p.toNatClampNeg) :: S) σ := je_sld (show jm_fe 0 146 = some (jk_sld) from rfl) hi
theorem r_law_law_147 (hc : jm_cl σ.1 a = some 9) (h8 : S.length ≤ 8) : je X 0 147 L (v2 :: v1 :: v0 :: .inr (.inl (some a)) :: S) σ = je_c X 0 150 L S (je X 22 0 [some (.inr (.inl (some a))), some v0, some v1, some v2, none] [] σ) := je_callV (as := [v0, v1, v2]) (S' := S) (show jm_fe 0 147 = some (jk_callV 22 3 9) from rfl) rfl hc h8
theorem r_law_law_150 : je X 0 150 L (.inl q :: .inl p :: S) σ = if p = q then je X 0 656 L S σ else je X 0 153 L S σ := je_icmp_eq (show jm_fe 0 150 = some (jk_icmp .eq 656) from rfl)
theorem r_law_law_153 : je X 0 153 L S σ = je X 0 154 L (.inl 0 :: S) σ := je_const (show jm_fe 0 153 = some (jk_const 0 1) from rfl)
theorem r_law_law_154 (hx : p = 0 ∨ p = 1) : je X 0 154 L [.inl p] σ = some (some (.inl p), σ) := je_zret (show jm_fe 0 154 = some (jk_zret) from rfl) hx
theorem r_law_law_155 : je X 0 155 [l0, some (.inr r), l2, l3] S σ = je X 0 156 [l0, some (.inr r), l2, l3] (.inr r :: S) σ := je_aload (show jm_fe 0 155 = some (jk_aload 1 1) from rfl) rfl
theorem r_law_law_156 : je X 0 156 [some (.inr r), l1, l2, l3] S σ = je X 0 157 [some (.inr r), l1, l2, l3] (.inr r :: S) σ := je_aload (show jm_fe 0 156 = some (jk_aload 0 1) from rfl) rfl
theorem r_law_law_157 : je X 0 157 [l0, l1, l2, some (.inl x)] S σ = je X 0 158 [l0, l1, l2, some (.inl x)] (.inl x :: S) σ := je_iload (show jm_fe 0 157 = some (jk_iload 3 1) from rfl) rfl
theorem r_law_law_158 : je X 0 158 L S σ = je X 0 159 L (.inl 1 :: S) σ := je_const (show jm_fe 0 158 = some (jk_const 1 1) from rfl)
theorem r_law_law_159 : je X 0 159 L (.inl q :: .inl p :: S) σ = je X 0 160 L (.inl (p + q) :: S) σ := je_bin (show jm_fe 0 159 = some (jb_iadd) from rfl)
theorem r_law_law_160 (hi : jm_in p X.1 = true) : je X 0 160 L (.inl p :: .inr (.inr u) :: S) σ = je X 0 161 L (.inl (X.2 p.toNatClampNeg) :: S) σ := je_sld (show jm_fe 0 160 = some (jk_sld) from rfl) hi
theorem r_law_law_161 : je X 0 161 [some (.inr r), l1, l2, l3] S σ = je X 0 162 [some (.inr r), l1, l2, l3] (.inr r :: S) σ := je_aload (show jm_fe 0 161 = some (jk_aload 0 1) from rfl) rfl
theorem r_law_law_162 : je X 0 162 [l0, l1, l2, some (.inl x)] S σ = je X 0 163 [l0, l1, l2, some (.inl x)] (.inl x :: S) σ := je_iload (show jm_fe 0 162 = some (jk_iload 3 1) from rfl) rfl
theorem r_law_law_163 : je X 0 163 L S σ = je X 0 164 L (.inl 2 :: S) σ := je_const (show jm_fe 0 163 = some (jk_const 2 1) from rfl)
theorem r_law_law_164 : je X 0 164 L (.inl q :: .inl p :: S) σ = je X 0 165 L (.inl (p + q) :: S) σ := je_bin (show jm_fe 0 164 = some (jb_iadd) from rfl)
theorem r_law_law_165 (hi : jm_in p X.1 = true) : je X 0 165 L (.inl p :: .inr (.inr u) :: S) σ = je X 0 166 L (.inl (X.2 p.toNatClampNeg) :: S) σ := je_sld (show jm_fe 0 165 = some (jk_sld) from rfl) hi
theorem r_law_law_166 : je X 0 166 [some (.inr r), l1, l2, l3] S σ = je X 0 167 [some (.inr r), l1, l2, l3] (.inr r :: S) σ := je_aload (show jm_fe 0 166 = some (jk_aload 0 1) from rfl) rfl
theorem r_law_law_167 : je X 0 167 [l0, l1, l2, some (.inl x)] S σ = je X 0 168 [l0, l1, l2, some (.inl x)] (.inl x :: S) σ := je_iload (show jm_fe 0 167 = some (jk_iload 3 1) from rfl) rfl
theorem r_law_law_168 : je X 0 168 L S σ = je X 0 169 L (.inl 3 :: S) σ := je_const (show jm_fe 0 168 = some (jk_const 3 1) from rfl)
theorem r_law_law_169 : je X 0 169 L (.inl q :: .inl p :: S) σ = je X 0 170 L (.inl (p + q) :: S) σ := je_bin (show jm_fe 0 169 = some (jb_iadd) from rfl)
theorem r_law_law_170 (hi : jm_in p X.1 = true) : je X 0 170 L (.inl p :: .inr (.inr u) :: S) σ = je X 0 171 L (.inl (X.2 p.toNatClampNeg) :: S) σ := je_sld (show jm_fe 0 170 = some (jk_sld) from rfl) hi
theorem r_law_law_171 (hc : jm_cl σ.1 a = some 0) (h8 : S.length ≤ 8) : je X 0 171 L (v2 :: v1 :: v0 :: .inr (.inl (some a)) :: S) σ = je_c X 0 174 L S (je X 3 0 [some (.inr (.inl (some a))), some v0, some v1, some v2, none, none] [] σ) := je_callV (as := [v0, v1, v2]) (S' := S) (show jm_fe 0 171 = some (jk_callV 3 3 0) from rfl) rfl hc h8
theorem r_law_law_174 : je X 0 174 [l0, l1, some (.inr r), l3] S σ = je X 0 175 [l0, l1, some (.inr r), l3] (.inr r :: S) σ := je_aload (show jm_fe 0 174 = some (jk_aload 2 1) from rfl) rfl
theorem r_law_law_175 : je X 0 175 [some (.inr r), l1, l2, l3] S σ = je X 0 176 [some (.inr r), l1, l2, l3] (.inr r :: S) σ := je_aload (show jm_fe 0 175 = some (jk_aload 0 1) from rfl) rfl
theorem r_law_law_176 : je X 0 176 [l0, l1, l2, some (.inl x)] S σ = je X 0 177 [l0, l1, l2, some (.inl x)] (.inl x :: S) σ := je_iload (show jm_fe 0 176 = some (jk_iload 3 1) from rfl) rfl
theorem r_law_law_177 : je X 0 177 L S σ = je X 0 178 L (.inl 1 :: S) σ := je_const (show jm_fe 0 177 = some (jk_const 1 1) from rfl)
theorem r_law_law_178 : je X 0 178 L (.inl q :: .inl p :: S) σ = je X 0 179 L (.inl (p + q) :: S) σ := je_bin (show jm_fe 0 178 = some (jb_iadd) from rfl)
theorem r_law_law_179 (hi : jm_in p X.1 = true) : je X 0 179 L (.inl p :: .inr (.inr u) :: S) σ = je X 0 180 L (.inl (X.2 p.toNatClampNeg) :: S) σ := je_sld (show jm_fe 0 179 = some (jk_sld) from rfl) hi
theorem r_law_law_180 : je X 0 180 [some (.inr r), l1, l2, l3] S σ = je X 0 181 [some (.inr r), l1, l2, l3] (.inr r :: S) σ := je_aload (show jm_fe 0 180 = some (jk_aload 0 1) from rfl) rfl
theorem r_law_law_181 : je X 0 181 [l0, l1, l2, some (.inl x)] S σ = je X 0 182 [l0, l1, l2, some (.inl x)] (.inl x :: S) σ := je_iload (show jm_fe 0 181 = some (jk_iload 3 1) from rfl) rfl
theorem r_law_law_182 : je X 0 182 L S σ = je X 0 183 L (.inl 2 :: S) σ := je_const (show jm_fe 0 182 = some (jk_const 2 1) from rfl)
theorem r_law_law_183 : je X 0 183 L (.inl q :: .inl p :: S) σ = je X 0 184 L (.inl (p + q) :: S) σ := je_bin (show jm_fe 0 183 = some (jb_iadd) from rfl)
theorem r_law_law_184 (hi : jm_in p X.1 = true) : je X 0 184 L (.inl p :: .inr (.inr u) :: S) σ = je X 0 185 L (.inl (X.2 p.toNatClampNeg) :: S) σ := je_sld (show jm_fe 0 184 = some (jk_sld) from rfl) hi
theorem r_law_law_185 : je X 0 185 [some (.inr r), l1, l2, l3] S σ = je X 0 186 [some (.inr r), l1, l2, l3] (.inr r :: S) σ := je_aload (show jm_fe 0 185 = some (jk_aload 0 1) from rfl) rfl
theorem r_law_law_186 : je X 0 186 [l0, l1, l2, some (.inl x)] S σ = je X 0 187 [l0, l1, l2, some (.inl x)] (.inl x :: S) σ := je_iload (show jm_fe 0 186 = some (jk_iload 3 1) from rfl) rfl
theorem r_law_law_187 : je X 0 187 L S σ = je X 0 188 L (.inl 3 :: S) σ := je_const (show jm_fe 0 187 = some (jk_const 3 1) from rfl)
theorem r_law_law_188 : je X 0 188 L (.inl q :: .inl p :: S) σ = je X 0 189 L (.inl (p + q) :: S) σ := je_bin (show jm_fe 0 188 = some (jb_iadd) from rfl)
theorem r_law_law_189 (hi : jm_in p X.1 = true) : je X 0 189 L (.inl p :: .inr (.inr u) :: S) σ = je X 0 190 L (.inl (X.2 p.toNatClampNeg) :: S) σ := je_sld (show jm_fe 0 189 = some (jk_sld) from rfl) hi
theorem r_law_law_190 (hc : jm_cl σ.1 a = some 9) (h8 : S.length ≤ 8) : je X 0 190 L (v2 :: v1 :: v0 :: .inr (.inl (some a)) :: S) σ = je_c X 0 193 L S (je X 23 0 [some (.inr (.inl (some a))), some v0, some v1, some v2, none] [] σ) := je_callV (as := [v0, v1, v2]) (S' := S) (show jm_fe 0 190 = some (jk_callV 23 3 9) from rfl) rfl hc h8
theorem r_law_law_193 : je X 0 193 L (.inl q :: .inl p :: S) σ = if p = q then je X 0 656 L S σ else je X 0 196 L S σ := je_icmp_eq (show jm_fe 0 193 = some (jk_icmp .eq 656) from rfl)
theorem r_law_law_196 : je X 0 196 L S σ = je X 0 197 L (.inl 0 :: S) σ := je_const (show jm_fe 0 196 = some (jk_const 0 1) from rfl)
theorem r_law_law_197 (hx : p = 0 ∨ p = 1) : je X 0 197 L [.inl p] σ = some (some (.inl p), σ) := je_zret (show jm_fe 0 197 = some (jk_zret) from rfl) hx
theorem r_law_law_198 : je X 0 198 [l0, some (.inr r), l2, l3] S σ = je X 0 199 [l0, some (.inr r), l2, l3] (.inr r :: S) σ := je_aload (show jm_fe 0 198 = some (jk_aload 1 1) from rfl) rfl
theorem r_law_law_199 : je X 0 199 [some (.inr r), l1, l2, l3] S σ = je X 0 200 [some (.inr r), l1, l2, l3] (.inr r :: S) σ := je_aload (show jm_fe 0 199 = some (jk_aload 0 1) from rfl) rfl
theorem r_law_law_200 : je X 0 200 [l0, l1, l2, some (.inl x)] S σ = je X 0 201 [l0, l1, l2, some (.inl x)] (.inl x :: S) σ := je_iload (show jm_fe 0 200 = some (jk_iload 3 1) from rfl) rfl
theorem r_law_law_201 : je X 0 201 L S σ = je X 0 202 L (.inl 1 :: S) σ := je_const (show jm_fe 0 201 = some (jk_const 1 1) from rfl)
theorem r_law_law_202 : je X 0 202 L (.inl q :: .inl p :: S) σ = je X 0 203 L (.inl (p + q) :: S) σ := je_bin (show jm_fe 0 202 = some (jb_iadd) from rfl)
theorem r_law_law_203 (hi : jm_in p X.1 = true) : je X 0 203 L (.inl p :: .inr (.inr u) :: S) σ = je X 0 204 L (.inl (X.2 p.toNatClampNeg) :: S) σ := je_sld (show jm_fe 0 203 = some (jk_sld) from rfl) hi
theorem r_law_law_204 : je X 0 204 [some (.inr r), l1, l2, l3] S σ = je X 0 205 [some (.inr r), l1, l2, l3] (.inr r :: S) σ := je_aload (show jm_fe 0 204 = some (jk_aload 0 1) from rfl) rfl
theorem r_law_law_205 : je X 0 205 [l0, l1, l2, some (.inl x)] S σ = je X 0 206 [l0, l1, l2, some (.inl x)] (.inl x :: S) σ := je_iload (show jm_fe 0 205 = some (jk_iload 3 1) from rfl) rfl
theorem r_law_law_206 : je X 0 206 L S σ = je X 0 207 L (.inl 2 :: S) σ := je_const (show jm_fe 0 206 = some (jk_const 2 1) from rfl)
theorem r_law_law_207 : je X 0 207 L (.inl q :: .inl p :: S) σ = je X 0 208 L (.inl (p + q) :: S) σ := je_bin (show jm_fe 0 207 = some (jb_iadd) from rfl)
theorem r_law_law_208 (hi : jm_in p X.1 = true) : je X 0 208 L (.inl p :: .inr (.inr u) :: S) σ = je X 0 209 L (.inl (X.2 p.toNatClampNeg) :: S) σ := je_sld (show jm_fe 0 208 = some (jk_sld) from rfl) hi
theorem r_law_law_209 : je X 0 209 [some (.inr r), l1, l2, l3] S σ = je X 0 210 [some (.inr r), l1, l2, l3] (.inr r :: S) σ := je_aload (show jm_fe 0 209 = some (jk_aload 0 1) from rfl) rfl
theorem r_law_law_210 : je X 0 210 [l0, l1, l2, some (.inl x)] S σ = je X 0 211 [l0, l1, l2, some (.inl x)] (.inl x :: S) σ := je_iload (show jm_fe 0 210 = some (jk_iload 3 1) from rfl) rfl
theorem r_law_law_211 : je X 0 211 L S σ = je X 0 212 L (.inl 3 :: S) σ := je_const (show jm_fe 0 211 = some (jk_const 3 1) from rfl)
theorem r_law_law_212 : je X 0 212 L (.inl q :: .inl p :: S) σ = je X 0 213 L (.inl (p + q) :: S) σ := je_bin (show jm_fe 0 212 = some (jb_iadd) from rfl)
theorem r_law_law_213 (hi : jm_in p X.1 = true) : je X 0 213 L (.inl p :: .inr (.inr u) :: S) σ = je X 0 214 L (.inl (X.2 p.toNatClampNeg) :: S) σ := je_sld (show jm_fe 0 213 = some (jk_sld) from rfl) hi
theorem r_law_law_214 : je X 0 214 [some (.inr r), l1, l2, l3] S σ = je X 0 215 [some (.inr r), l1, l2, l3] (.inr r :: S) σ := je_aload (show jm_fe 0 214 = some (jk_aload 0 1) from rfl) rfl
theorem r_law_law_215 : je X 0 215 [l0, l1, l2, some (.inl x)] S σ = je X 0 216 [l0, l1, l2, some (.inl x)] (.inl x :: S) σ := je_iload (show jm_fe 0 215 = some (jk_iload 3 1) from rfl) rfl
theorem r_law_law_216 : je X 0 216 L S σ = je X 0 217 L (.inl 4 :: S) σ := je_const (show jm_fe 0 216 = some (jk_const 4 1) from rfl)
theorem r_law_law_217 : je X 0 217 L (.inl q :: .inl p :: S) σ = je X 0 218 L (.inl (p + q) :: S) σ := je_bin (show jm_fe 0 217 = some (jb_iadd) from rfl)
theorem r_law_law_218 (hi : jm_in p X.1 = true) : je X 0 218 L (.inl p :: .inr (.inr u) :: S) σ = je X 0 219 L (.inl (X.2 p.toNatClampNeg) :: S) σ := je_sld (show jm_fe 0 218 = some (jk_sld) from rfl) hi
theorem r_law_law_219 (hc : jm_cl σ.1 a = some 0) (h8 : S.length ≤ 8) : je X 0 219 L (v3 :: v2 :: v1 :: v0 :: .inr (.inl (some a)) :: S) σ = je_c X 0 222 L S (je X 4 0 [some (.inr (.inl (some a))), some v0, some v1, some v2, some v3, none] [] σ) := je_callV (as := [v0, v1, v2, v3]) (S' := S) (show jm_fe 0 219 = some (jk_callV 4 4 0) from rfl) rfl hc h8
theorem r_law_law_222 : je X 0 222 [l0, l1, some (.inr r), l3] S σ = je X 0 223 [l0, l1, some (.inr r), l3] (.inr r :: S) σ := je_aload (show jm_fe 0 222 = some (jk_aload 2 1) from rfl) rfl
theorem r_law_law_223 : je X 0 223 [some (.inr r), l1, l2, l3] S σ = je X 0 224 [some (.inr r), l1, l2, l3] (.inr r :: S) σ := je_aload (show jm_fe 0 223 = some (jk_aload 0 1) from rfl) rfl
theorem r_law_law_224 : je X 0 224 [l0, l1, l2, some (.inl x)] S σ = je X 0 225 [l0, l1, l2, some (.inl x)] (.inl x :: S) σ := je_iload (show jm_fe 0 224 = some (jk_iload 3 1) from rfl) rfl
theorem r_law_law_225 : je X 0 225 L S σ = je X 0 226 L (.inl 1 :: S) σ := je_const (show jm_fe 0 225 = some (jk_const 1 1) from rfl)
theorem r_law_law_226 : je X 0 226 L (.inl q :: .inl p :: S) σ = je X 0 227 L (.inl (p + q) :: S) σ := je_bin (show jm_fe 0 226 = some (jb_iadd) from rfl)
theorem r_law_law_227 (hi : jm_in p X.1 = true) : je X 0 227 L (.inl p :: .inr (.inr u) :: S) σ = je X 0 228 L (.inl (X.2 p.toNatClampNeg) :: S) σ := je_sld (show jm_fe 0 227 = some (jk_sld) from rfl) hi
theorem r_law_law_228 : je X 0 228 [some (.inr r), l1, l2, l3] S σ = je X 0 229 [some (.inr r), l1, l2, l3] (.inr r :: S) σ := je_aload (show jm_fe 0 228 = some (jk_aload 0 1) from rfl) rfl
theorem r_law_law_229 : je X 0 229 [l0, l1, l2, some (.inl x)] S σ = je X 0 230 [l0, l1, l2, some (.inl x)] (.inl x :: S) σ := je_iload (show jm_fe 0 229 = some (jk_iload 3 1) from rfl) rfl
theorem r_law_law_230 : je X 0 230 L S σ = je X 0 231 L (.inl 2 :: S) σ := je_const (show jm_fe 0 230 = some (jk_const 2 1) from rfl)
theorem r_law_law_231 : je X 0 231 L (.inl q :: .inl p :: S) σ = je X 0 232 L (.inl (p + q) :: S) σ := je_bin (show jm_fe 0 231 = some (jb_iadd) from rfl)
theorem r_law_law_232 (hi : jm_in p X.1 = true) : je X 0 232 L (.inl p :: .inr (.inr u) :: S) σ = je X 0 233 L (.inl (X.2 p.toNatClampNeg) :: S) σ := je_sld (show jm_fe 0 232 = some (jk_sld) from rfl) hi
theorem r_law_law_233 : je X 0 233 [some (.inr r), l1, l2, l3] S σ = je X 0 234 [some (.inr r), l1, l2, l3] (.inr r :: S) σ := je_aload (show jm_fe 0 233 = some (jk_aload 0 1) from rfl) rfl
theorem r_law_law_234 : je X 0 234 [l0, l1, l2, some (.inl x)] S σ = je X 0 235 [l0, l1, l2, some (.inl x)] (.inl x :: S) σ := je_iload (show jm_fe 0 234 = some (jk_iload 3 1) from rfl) rfl
set_option maxRecDepth 20000 in
theorem r_law_law_235 : je X 0 235 L S σ = je X 0 236 L (.inl 3 :: S) σ := je_const (show jm_fe 0 235 = some (jk_const 3 1) from rfl)
set_option maxRecDepth 20000 in
theorem r_law_law_236 : je X 0 236 L (.inl q :: .inl p :: S) σ = je X 0 237 L (.inl (p + q) :: S) σ := je_bin (show jm_fe 0 236 = some (jb_iadd) from rfl)
set_option maxRecDepth 20000 in
theorem r_law_law_237 (hi : jm_in p X.1 = true) : je X 0 237 L (.inl p :: .inr (.inr u) :: S) σ = je X 0 238 L (.inl (X.2 p.toNatClampNeg) :: S) σ := je_sld (show jm_fe 0 237 = some (jk_sld) from rfl) hi
set_option maxRecDepth 20000 in
theorem r_law_law_238 : je X 0 238 [some (.inr r), l1, l2, l3] S σ = je X 0 239 [some (.inr r), l1, l2, l3] (.inr r :: S) σ := je_aload (show jm_fe 0 238 = some (jk_aload 0 1) from rfl) rfl
set_option maxRecDepth 20000 in
theorem r_law_law_239 : je X 0 239 [l0, l1, l2, some (.inl x)] S σ = je X 0 240 [l0, l1, l2, some (.inl x)] (.inl x :: S) σ := je_iload (show jm_fe 0 239 = some (jk_iload 3 1) from rfl) rfl
set_option maxRecDepth 20000 in
theorem r_law_law_240 : je X 0 240 L S σ = je X 0 241 L (.inl 4 :: S) σ := je_const (show jm_fe 0 240 = some (jk_const 4 1) from rfl)
set_option maxRecDepth 20000 in
theorem r_law_law_241 : je X 0 241 L (.inl q :: .inl p :: S) σ = je X 0 242 L (.inl (p + q) :: S) σ := je_bin (show jm_fe 0 241 = some (jb_iadd) from rfl)
set_option maxRecDepth 20000 in
theorem r_law_law_242 (hi : jm_in p X.1 = true) : je X 0 242 L (.inl p :: .inr (.inr u) :: S) σ = je X 0 243 L (.inl (X.2 p.toNatClampNeg) :: S) σ := je_sld (show jm_fe 0 242 = some (jk_sld) from rfl) hi
set_option maxRecDepth 20000 in
theorem r_law_law_243 (hc : jm_cl σ.1 a = some 9) (h8 : S.length ≤ 8) : je X 0 243 L (v3 :: v2 :: v1 :: v0 :: .inr (.inl (some a)) :: S) σ = je_c X 0 246 L S (je X 24 0 [some (.inr (.inl (some a))), some v0, some v1, some v2, some v3] [] σ) := je_callV (as := [v0, v1, v2, v3]) (S' := S) (show jm_fe 0 243 = some (jk_callV 24 4 9) from rfl) rfl hc h8
set_option maxRecDepth 20000 in
theorem r_law_law_246 : je X 0 246 L (.inl q :: .inl p :: S) σ = if p = q then je X 0 656 L S σ else je X 0 249 L S σ := je_icmp_eq (show jm_fe 0 246 = some (jk_icmp .eq 656) from rfl)
set_option maxRecDepth 20000 in
theorem r_law_law_249 : je X 0 249 L S σ = je X 0 250 L (.inl 0 :: S) σ := je_const (show jm_fe 0 249 = some (jk_const 0 1) from rfl)
set_option maxRecDepth 20000 in
theorem r_law_law_250 (hx : p = 0 ∨ p = 1) : je X 0 250 L [.inl p] σ = some (some (.inl p), σ) := je_zret (show jm_fe 0 250 = some (jk_zret) from rfl) hx
set_option maxRecDepth 20000 in
theorem r_law_law_251 : je X 0 251 [l0, some (.inr r), l2, l3] S σ = je X 0 252 [l0, some (.inr r), l2, l3] (.inr r :: S) σ := je_aload (show jm_fe 0 251 = some (jk_aload 1 1) from rfl) rfl
set_option maxRecDepth 20000 in
theorem r_law_law_252 : je X 0 252 [some (.inr r), l1, l2, l3] S σ = je X 0 253 [some (.inr r), l1, l2, l3] (.inr r :: S) σ := je_aload (show jm_fe 0 252 = some (jk_aload 0 1) from rfl) rfl
set_option maxRecDepth 20000 in
theorem r_law_law_253 : je X 0 253 [l0, l1, l2, some (.inl x)] S σ = je X 0 254 [l0, l1, l2, some (.inl x)] (.inl x :: S) σ := je_iload (show jm_fe 0 253 = some (jk_iload 3 1) from rfl) rfl
set_option maxRecDepth 20000 in
theorem r_law_law_254 : je X 0 254 L S σ = je X 0 255 L (.inl 1 :: S) σ := je_const (show jm_fe 0 254 = some (jk_const 1 1) from rfl)
set_option maxRecDepth 20000 in
theorem r_law_law_255 : je X 0 255 L (.inl q :: .inl p :: S) σ = je X 0 256 L (.inl (p + q) :: S) σ := je_bin (show jm_fe 0 255 = some (jb_iadd) from rfl)
set_option maxRecDepth 20000 in
theorem r_law_law_256 (hi : jm_in p X.1 = true) : je X 0 256 L (.inl p :: .inr (.inr u) :: S) σ = je X 0 257 L (.inl (X.2 p.toNatClampNeg) :: S) σ := je_sld (show jm_fe 0 256 = some (jk_sld) from rfl) hi
set_option maxRecDepth 20000 in
theorem r_law_law_257 : je X 0 257 [some (.inr r), l1, l2, l3] S σ = je X 0 258 [some (.inr r), l1, l2, l3] (.inr r :: S) σ := je_aload (show jm_fe 0 257 = some (jk_aload 0 1) from rfl) rfl
set_option maxRecDepth 20000 in
theorem r_law_law_258 : je X 0 258 [l0, l1, l2, some (.inl x)] S σ = je X 0 259 [l0, l1, l2, some (.inl x)] (.inl x :: S) σ := je_iload (show jm_fe 0 258 = some (jk_iload 3 1) from rfl) rfl
set_option maxRecDepth 20000 in
theorem r_law_law_259 : je X 0 259 L S σ = je X 0 260 L (.inl 2 :: S) σ := je_const (show jm_fe 0 259 = some (jk_const 2 1) from rfl)
set_option maxRecDepth 20000 in
theorem r_law_law_260 : je X 0 260 L (.inl q :: .inl p :: S) σ = je X 0 261 L (.inl (p + q) :: S) σ := je_bin (show jm_fe 0 260 = some (jb_iadd) from rfl)
set_option maxRecDepth 20000 in
theorem r_law_law_261 (hi : jm_in p X.1 = true) : je X 0 261 L (.inl p :: .inr (.inr u) :: S) σ = je X 0 262 L (.inl (X.2 p.toNatClampNeg) :: S) σ := je_sld (show jm_fe 0 261 = some (jk_sld) from rfl) hi
set_option maxRecDepth 20000 in
theorem r_law_law_262 : je X 0 262 [some (.inr r), l1, l2, l3] S σ = je X 0 263 [some (.inr r), l1, l2, l3] (.inr r :: S) σ := je_aload (show jm_fe 0 262 = some (jk_aload 0 1) from rfl) rfl
set_option maxRecDepth 20000 in
theorem r_law_law_263 : je X 0 263 [l0, l1, l2, some (.inl x)] S σ = je X 0 264 [l0, l1, l2, some (.inl x)] (.inl x :: S) σ := je_iload (show jm_fe 0 263 = some (jk_iload 3 1) from rfl) rfl
set_option maxRecDepth 20000 in
theorem r_law_law_264 : je X 0 264 L S σ = je X 0 265 L (.inl 3 :: S) σ := je_const (show jm_fe 0 264 = some (jk_const 3 1) from rfl)
set_option maxRecDepth 20000 in
theorem r_law_law_265 : je X 0 265 L (.inl q :: .inl p :: S) σ = je X 0 266 L (.inl (p + q) :: S) σ := je_bin (show jm_fe 0 265 = some (jb_iadd) from rfl)
set_option maxRecDepth 20000 in
theorem r_law_law_266 (hi : jm_in p X.1 = true) : je X 0 266 L (.inl p :: .inr (.inr u) :: S) σ = je X 0 267 L (.inl (X.2 p.toNatClampNeg) :: S) σ := je_sld (show jm_fe 0 266 = some (jk_sld) from rfl) hi
set_option maxRecDepth 20000 in
theorem r_law_law_267 : je X 0 267 [some (.inr r), l1, l2, l3] S σ = je X 0 268 [some (.inr r), l1, l2, l3] (.inr r :: S) σ := je_aload (show jm_fe 0 267 = some (jk_aload 0 1) from rfl) rfl
set_option maxRecDepth 20000 in
theorem r_law_law_268 : je X 0 268 [l0, l1, l2, some (.inl x)] S σ = je X 0 269 [l0, l1, l2, some (.inl x)] (.inl x :: S) σ := je_iload (show jm_fe 0 268 = some (jk_iload 3 1) from rfl) rfl
set_option maxRecDepth 20000 in
theorem r_law_law_269 : je X 0 269 L S σ = je X 0 270 L (.inl 4 :: S) σ := je_const (show jm_fe 0 269 = some (jk_const 4 1) from rfl)
set_option maxRecDepth 20000 in
theorem r_law_law_270 : je X 0 270 L (.inl q :: .inl p :: S) σ = je X 0 271 L (.inl (p + q) :: S) σ := je_bin (show jm_fe 0 270 = some (jb_iadd) from rfl)
set_option maxRecDepth 20000 in
theorem r_law_law_271 (hi : jm_in p X.1 = true) : je X 0 271 L (.inl p :: .inr (.inr u) :: S) σ = je X 0 272 L (.inl (X.2 p.toNatClampNeg) :: S) σ := je_sld (show jm_fe 0 271 = some (jk_sld) from rfl) hi
set_option maxRecDepth 20000 in
theorem r_law_law_272 (hc : jm_cl σ.1 a = some 0) (h8 : S.length ≤ 8) : je X 0 272 L (v3 :: v2 :: v1 :: v0 :: .inr (.inl (some a)) :: S) σ = je_c X 0 275 L S (je X 5 0 [some (.inr (.inl (some a))), some v0, some v1, some v2, some v3, none] [] σ) := je_callV (as := [v0, v1, v2, v3]) (S' := S) (show jm_fe 0 272 = some (jk_callV 5 4 0) from rfl) rfl hc h8
set_option maxRecDepth 20000 in
theorem r_law_law_275 : je X 0 275 [l0, l1, some (.inr r), l3] S σ = je X 0 276 [l0, l1, some (.inr r), l3] (.inr r :: S) σ := je_aload (show jm_fe 0 275 = some (jk_aload 2 1) from rfl) rfl
set_option maxRecDepth 20000 in
theorem r_law_law_276 : je X 0 276 [some (.inr r), l1, l2, l3] S σ = je X 0 277 [some (.inr r), l1, l2, l3] (.inr r :: S) σ := je_aload (show jm_fe 0 276 = some (jk_aload 0 1) from rfl) rfl
set_option maxRecDepth 20000 in
theorem r_law_law_277 : je X 0 277 [l0, l1, l2, some (.inl x)] S σ = je X 0 278 [l0, l1, l2, some (.inl x)] (.inl x :: S) σ := je_iload (show jm_fe 0 277 = some (jk_iload 3 1) from rfl) rfl
set_option maxRecDepth 20000 in
theorem r_law_law_278 : je X 0 278 L S σ = je X 0 279 L (.inl 1 :: S) σ := je_const (show jm_fe 0 278 = some (jk_const 1 1) from rfl)
set_option maxRecDepth 20000 in
theorem r_law_law_279 : je X 0 279 L (.inl q :: .inl p :: S) σ = je X 0 280 L (.inl (p + q) :: S) σ := je_bin (show jm_fe 0 279 = some (jb_iadd) from rfl)
set_option maxRecDepth 20000 in
theorem r_law_law_280 (hi : jm_in p X.1 = true) : je X 0 280 L (.inl p :: .inr (.inr u) :: S) σ = je X 0 281 L (.inl (X.2 p.toNatClampNeg) :: S) σ := je_sld (show jm_fe 0 280 = some (jk_sld) from rfl) hi
set_option maxRecDepth 20000 in
theorem r_law_law_281 : je X 0 281 [some (.inr r), l1, l2, l3] S σ = je X 0 282 [some (.inr r), l1, l2, l3] (.inr r :: S) σ := je_aload (show jm_fe 0 281 = some (jk_aload 0 1) from rfl) rfl
set_option maxRecDepth 20000 in
theorem r_law_law_282 : je X 0 282 [l0, l1, l2, some (.inl x)] S σ = je X 0 283 [l0, l1, l2, some (.inl x)] (.inl x :: S) σ := je_iload (show jm_fe 0 282 = some (jk_iload 3 1) from rfl) rfl
set_option maxRecDepth 20000 in
theorem r_law_law_283 : je X 0 283 L S σ = je X 0 284 L (.inl 2 :: S) σ := je_const (show jm_fe 0 283 = some (jk_const 2 1) from rfl)
set_option maxRecDepth 20000 in
theorem r_law_law_284 : je X 0 284 L (.inl q :: .inl p :: S) σ = je X 0 285 L (.inl (p + q) :: S) σ := je_bin (show jm_fe 0 284 = some (jb_iadd) from rfl)
set_option maxRecDepth 20000 in
theorem r_law_law_285 (hi : jm_in p X.1 = true) : je X 0 285 L (.inl p :: .inr (.inr u) :: S) σ = je X 0 286 L (.inl (X.2 p.toNatClampNeg) :: S) σ := je_sld (show jm_fe 0 285 = some (jk_sld) from rfl) hi
set_option maxRecDepth 20000 in
theorem r_law_law_286 : je X 0 286 [some (.inr r), l1, l2, l3] S σ = je X 0 287 [some (.inr r), l1, l2, l3] (.inr r :: S) σ := je_aload (show jm_fe 0 286 = some (jk_aload 0 1) from rfl) rfl
set_option maxRecDepth 20000 in
theorem r_law_law_287 : je X 0 287 [l0, l1, l2, some (.inl x)] S σ = je X 0 288 [l0, l1, l2, some (.inl x)] (.inl x :: S) σ := je_iload (show jm_fe 0 287 = some (jk_iload 3 1) from rfl) rfl
set_option maxRecDepth 20000 in
theorem r_law_law_288 : je X 0 288 L S σ = je X 0 289 L (.inl 3 :: S) σ := je_const (show jm_fe 0 288 = some (jk_const 3 1) from rfl)
set_option maxRecDepth 20000 in
theorem r_law_law_289 : je X 0 289 L (.inl q :: .inl p :: S) σ = je X 0 290 L (.inl (p + q) :: S) σ := je_bin (show jm_fe 0 289 = some (jb_iadd) from rfl)
set_option maxRecDepth 20000 in
theorem r_law_law_290 (hi : jm_in p X.1 = true) : je X 0 290 L (.inl p :: .inr (.inr u) :: S) σ = je X 0 291 L (.inl (X.2 p.toNatClampNeg) :: S) σ := je_sld (show jm_fe 0 290 = some (jk_sld) from rfl) hi
set_option maxRecDepth 20000 in
theorem r_law_law_291 : je X 0 291 [some (.inr r), l1, l2, l3] S σ = je X 0 292 [some (.inr r), l1, l2, l3] (.inr r :: S) σ := je_aload (show jm_fe 0 291 = some (jk_aload 0 1) from rfl) rfl
set_option maxRecDepth 20000 in
theorem r_law_law_292 : je X 0 292 [l0, l1, l2, some (.inl x)] S σ = je X 0 293 [l0, l1, l2, some (.inl x)] (.inl x :: S) σ := je_iload (show jm_fe 0 292 = some (jk_iload 3 1) from rfl) rfl
set_option maxRecDepth 20000 in
theorem r_law_law_293 : je X 0 293 L S σ = je X 0 294 L (.inl 4 :: S) σ := je_const (show jm_fe 0 293 = some (jk_const 4 1) from rfl)
set_option maxRecDepth 20000 in
theorem r_law_law_294 : je X 0 294 L (.inl q :: .inl p :: S) σ = je X 0 295 L (.inl (p + q) :: S) σ := je_bin (show jm_fe 0 294 = some (jb_iadd) from rfl)
set_option maxRecDepth 20000 in
theorem r_law_law_295 (hi : jm_in p X.1 = true) : je X 0 295 L (.inl p :: .inr (.inr u) :: S) σ = je X 0 296 L (.inl (X.2 p.toNatClampNeg) :: S) σ := je_sld (show jm_fe 0 295 = some (jk_sld) from rfl) hi
set_option maxRecDepth 20000 in
theorem r_law_law_296 (hc : jm_cl σ.1 a = some 9) (h8 : S.length ≤ 8) : je X 0 296 L (v3 :: v2 :: v1 :: v0 :: .inr (.inl (some a)) :: S) σ = je_c X 0 299 L S (je X 26 0 [some (.inr (.inl (some a))), some v0, some v1, some v2, some v3, none] [] σ) := je_callV (as := [v0, v1, v2, v3]) (S' := S) (show jm_fe 0 296 = some (jk_callV 26 4 9) from rfl) rfl hc h8
set_option maxRecDepth 20000 in
theorem r_law_law_299 : je X 0 299 L (.inl q :: .inl p :: S) σ = if p = q then je X 0 656 L S σ else je X 0 302 L S σ := je_icmp_eq (show jm_fe 0 299 = some (jk_icmp .eq 656) from rfl)
set_option maxRecDepth 20000 in
theorem r_law_law_302 : je X 0 302 L S σ = je X 0 303 L (.inl 0 :: S) σ := je_const (show jm_fe 0 302 = some (jk_const 0 1) from rfl)
set_option maxRecDepth 20000 in
theorem r_law_law_303 (hx : p = 0 ∨ p = 1) : je X 0 303 L [.inl p] σ = some (some (.inl p), σ) := je_zret (show jm_fe 0 303 = some (jk_zret) from rfl) hx
set_option maxRecDepth 20000 in
theorem r_law_law_304 : je X 0 304 [l0, some (.inr r), l2, l3] S σ = je X 0 305 [l0, some (.inr r), l2, l3] (.inr r :: S) σ := je_aload (show jm_fe 0 304 = some (jk_aload 1 1) from rfl) rfl
set_option maxRecDepth 20000 in
theorem r_law_law_305 : je X 0 305 [some (.inr r), l1, l2, l3] S σ = je X 0 306 [some (.inr r), l1, l2, l3] (.inr r :: S) σ := je_aload (show jm_fe 0 305 = some (jk_aload 0 1) from rfl) rfl
set_option maxRecDepth 20000 in
theorem r_law_law_306 : je X 0 306 [l0, l1, l2, some (.inl x)] S σ = je X 0 307 [l0, l1, l2, some (.inl x)] (.inl x :: S) σ := je_iload (show jm_fe 0 306 = some (jk_iload 3 1) from rfl) rfl
set_option maxRecDepth 20000 in
theorem r_law_law_307 : je X 0 307 L S σ = je X 0 308 L (.inl 1 :: S) σ := je_const (show jm_fe 0 307 = some (jk_const 1 1) from rfl)
set_option maxRecDepth 20000 in
theorem r_law_law_308 : je X 0 308 L (.inl q :: .inl p :: S) σ = je X 0 309 L (.inl (p + q) :: S) σ := je_bin (show jm_fe 0 308 = some (jb_iadd) from rfl)
set_option maxRecDepth 20000 in
theorem r_law_law_309 (hi : jm_in p X.1 = true) : je X 0 309 L (.inl p :: .inr (.inr u) :: S) σ = je X 0 310 L (.inl (X.2 p.toNatClampNeg) :: S) σ := je_sld (show jm_fe 0 309 = some (jk_sld) from rfl) hi
set_option maxRecDepth 20000 in
theorem r_law_law_310 : je X 0 310 [some (.inr r), l1, l2, l3] S σ = je X 0 311 [some (.inr r), l1, l2, l3] (.inr r :: S) σ := je_aload (show jm_fe 0 310 = some (jk_aload 0 1) from rfl) rfl
set_option maxRecDepth 20000 in
theorem r_law_law_311 : je X 0 311 [l0, l1, l2, some (.inl x)] S σ = je X 0 312 [l0, l1, l2, some (.inl x)] (.inl x :: S) σ := je_iload (show jm_fe 0 311 = some (jk_iload 3 1) from rfl) rfl
set_option maxRecDepth 20000 in
theorem r_law_law_312 : je X 0 312 L S σ = je X 0 313 L (.inl 2 :: S) σ := je_const (show jm_fe 0 312 = some (jk_const 2 1) from rfl)
set_option maxRecDepth 20000 in
theorem r_law_law_313 : je X 0 313 L (.inl q :: .inl p :: S) σ = je X 0 314 L (.inl (p + q) :: S) σ := je_bin (show jm_fe 0 313 = some (jb_iadd) from rfl)
set_option maxRecDepth 20000 in
theorem r_law_law_314 (hi : jm_in p X.1 = true) : je X 0 314 L (.inl p :: .inr (.inr u) :: S) σ = je X 0 315 L (.inl (X.2 p.toNatClampNeg) :: S) σ := je_sld (show jm_fe 0 314 = some (jk_sld) from rfl) hi
set_option maxRecDepth 20000 in
theorem r_law_law_315 (hc : jm_cl σ.1 a = some 0) (h8 : S.length ≤ 8) : je X 0 315 L (v1 :: v0 :: .inr (.inl (some a)) :: S) σ = je_c X 0 318 L S (je X 6 0 [some (.inr (.inl (some a))), some v0, some v1, none] [] σ) := je_callV (as := [v0, v1]) (S' := S) (show jm_fe 0 315 = some (jk_callV 6 2 0) from rfl) rfl hc h8
set_option maxRecDepth 20000 in
theorem r_law_law_318 : je X 0 318 [l0, l1, some (.inr r), l3] S σ = je X 0 319 [l0, l1, some (.inr r), l3] (.inr r :: S) σ := je_aload (show jm_fe 0 318 = some (jk_aload 2 1) from rfl) rfl
set_option maxRecDepth 20000 in
theorem r_law_law_319 : je X 0 319 [some (.inr r), l1, l2, l3] S σ = je X 0 320 [some (.inr r), l1, l2, l3] (.inr r :: S) σ := je_aload (show jm_fe 0 319 = some (jk_aload 0 1) from rfl) rfl
set_option maxRecDepth 20000 in
theorem r_law_law_320 : je X 0 320 [l0, l1, l2, some (.inl x)] S σ = je X 0 321 [l0, l1, l2, some (.inl x)] (.inl x :: S) σ := je_iload (show jm_fe 0 320 = some (jk_iload 3 1) from rfl) rfl
set_option maxRecDepth 20000 in
theorem r_law_law_321 : je X 0 321 L S σ = je X 0 322 L (.inl 1 :: S) σ := je_const (show jm_fe 0 321 = some (jk_const 1 1) from rfl)
set_option maxRecDepth 20000 in
theorem r_law_law_322 : je X 0 322 L (.inl q :: .inl p :: S) σ = je X 0 323 L (.inl (p + q) :: S) σ := je_bin (show jm_fe 0 322 = some (jb_iadd) from rfl)
set_option maxRecDepth 20000 in
theorem r_law_law_323 (hi : jm_in p X.1 = true) : je X 0 323 L (.inl p :: .inr (.inr u) :: S) σ = je X 0 324 L (.inl (X.2 p.toNatClampNeg) :: S) σ := je_sld (show jm_fe 0 323 = some (jk_sld) from rfl) hi
set_option maxRecDepth 20000 in
theorem r_law_law_324 : je X 0 324 [some (.inr r), l1, l2, l3] S σ = je X 0 325 [some (.inr r), l1, l2, l3] (.inr r :: S) σ := je_aload (show jm_fe 0 324 = some (jk_aload 0 1) from rfl) rfl
set_option maxRecDepth 20000 in
theorem r_law_law_325 : je X 0 325 [l0, l1, l2, some (.inl x)] S σ = je X 0 326 [l0, l1, l2, some (.inl x)] (.inl x :: S) σ := je_iload (show jm_fe 0 325 = some (jk_iload 3 1) from rfl) rfl
set_option maxRecDepth 20000 in
theorem r_law_law_326 : je X 0 326 L S σ = je X 0 327 L (.inl 2 :: S) σ := je_const (show jm_fe 0 326 = some (jk_const 2 1) from rfl)
set_option maxRecDepth 20000 in
theorem r_law_law_327 : je X 0 327 L (.inl q :: .inl p :: S) σ = je X 0 328 L (.inl (p + q) :: S) σ := je_bin (show jm_fe 0 327 = some (jb_iadd) from rfl)
set_option maxRecDepth 20000 in
theorem r_law_law_328 (hi : jm_in p X.1 = true) : je X 0 328 L (.inl p :: .inr (.inr u) :: S) σ = je X 0 329 L (.inl (X.2 p.toNatClampNeg) :: S) σ := je_sld (show jm_fe 0 328 = some (jk_sld) from rfl) hi
set_option maxRecDepth 20000 in
theorem r_law_law_329 (hc : jm_cl σ.1 a = some 9) (h8 : S.length ≤ 8) : je X 0 329 L (v1 :: v0 :: .inr (.inl (some a)) :: S) σ = je_c X 0 332 L S (je X 27 0 [some (.inr (.inl (some a))), some v0, some v1, none] [] σ) := je_callV (as := [v0, v1]) (S' := S) (show jm_fe 0 329 = some (jk_callV 27 2 9) from rfl) rfl hc h8
set_option maxRecDepth 20000 in
theorem r_law_law_332 : je X 0 332 L (.inl q :: .inl p :: S) σ = if p = q then je X 0 656 L S σ else je X 0 335 L S σ := je_icmp_eq (show jm_fe 0 332 = some (jk_icmp .eq 656) from rfl)
set_option maxRecDepth 20000 in
theorem r_law_law_335 : je X 0 335 L S σ = je X 0 336 L (.inl 0 :: S) σ := je_const (show jm_fe 0 335 = some (jk_const 0 1) from rfl)
set_option maxRecDepth 20000 in
theorem r_law_law_336 (hx : p = 0 ∨ p = 1) : je X 0 336 L [.inl p] σ = some (some (.inl p), σ) := je_zret (show jm_fe 0 336 = some (jk_zret) from rfl) hx
set_option maxRecDepth 20000 in
theorem r_law_law_337 : je X 0 337 [l0, some (.inr r), l2, l3] S σ = je X 0 338 [l0, some (.inr r), l2, l3] (.inr r :: S) σ := je_aload (show jm_fe 0 337 = some (jk_aload 1 1) from rfl) rfl
set_option maxRecDepth 20000 in
theorem r_law_law_338 (hc : jm_cl σ.1 a = some 0) (h8 : S.length ≤ 8) : je X 0 338 L (.inr (.inl (some a)) :: S) σ = je_c X 0 341 L S (je X 7 0 [some (.inr (.inl (some a)))] [] σ) := je_callV (as := []) (S' := S) (show jm_fe 0 338 = some (jk_callV 7 0 0) from rfl) rfl hc h8
set_option maxRecDepth 20000 in
theorem r_law_law_341 : je X 0 341 [l0, l1, some (.inr r), l3] S σ = je X 0 342 [l0, l1, some (.inr r), l3] (.inr r :: S) σ := je_aload (show jm_fe 0 341 = some (jk_aload 2 1) from rfl) rfl
set_option maxRecDepth 20000 in
theorem r_law_law_342 (hc : jm_cl σ.1 a = some 9) (h8 : S.length ≤ 8) : je X 0 342 L (.inr (.inl (some a)) :: S) σ = je_c X 0 345 L S (je X 28 0 [some (.inr (.inl (some a)))] [] σ) := je_callV (as := []) (S' := S) (show jm_fe 0 342 = some (jk_callV 28 0 9) from rfl) rfl hc h8
set_option maxRecDepth 20000 in
theorem r_law_law_345 : je X 0 345 L S σ = je X 0 656 L S σ := je_goto (show jm_fe 0 345 = some (jk_goto 656) from rfl)
set_option maxRecDepth 20000 in
theorem r_law_law_348 : je X 0 348 [l0, some (.inr r), l2, l3] S σ = je X 0 349 [l0, some (.inr r), l2, l3] (.inr r :: S) σ := je_aload (show jm_fe 0 348 = some (jk_aload 1 1) from rfl) rfl
set_option maxRecDepth 20000 in
theorem r_law_law_349 : je X 0 349 [some (.inr r), l1, l2, l3] S σ = je X 0 350 [some (.inr r), l1, l2, l3] (.inr r :: S) σ := je_aload (show jm_fe 0 349 = some (jk_aload 0 1) from rfl) rfl
set_option maxRecDepth 20000 in
theorem r_law_law_350 : je X 0 350 [l0, l1, l2, some (.inl x)] S σ = je X 0 351 [l0, l1, l2, some (.inl x)] (.inl x :: S) σ := je_iload (show jm_fe 0 350 = some (jk_iload 3 1) from rfl) rfl
set_option maxRecDepth 20000 in
theorem r_law_law_351 : je X 0 351 L S σ = je X 0 352 L (.inl 1 :: S) σ := je_const (show jm_fe 0 351 = some (jk_const 1 1) from rfl)
set_option maxRecDepth 20000 in
theorem r_law_law_352 : je X 0 352 L (.inl q :: .inl p :: S) σ = je X 0 353 L (.inl (p + q) :: S) σ := je_bin (show jm_fe 0 352 = some (jb_iadd) from rfl)
set_option maxRecDepth 20000 in
theorem r_law_law_353 (hi : jm_in p X.1 = true) : je X 0 353 L (.inl p :: .inr (.inr u) :: S) σ = je X 0 354 L (.inl (X.2 p.toNatClampNeg) :: S) σ := je_sld (show jm_fe 0 353 = some (jk_sld) from rfl) hi
set_option maxRecDepth 20000 in
theorem r_law_law_354 (hc : jm_cl σ.1 a = some 0) (h8 : S.length ≤ 8) : je X 0 354 L (v0 :: .inr (.inl (some a)) :: S) σ = je_c X 0 357 L S (je X 8 0 [some (.inr (.inl (some a))), some v0] [] σ) := je_callV (as := [v0]) (S' := S) (show jm_fe 0 354 = some (jk_callV 8 1 0) from rfl) rfl hc h8
set_option maxRecDepth 20000 in
theorem r_law_law_357 : je X 0 357 [l0, l1, some (.inr r), l3] S σ = je X 0 358 [l0, l1, some (.inr r), l3] (.inr r :: S) σ := je_aload (show jm_fe 0 357 = some (jk_aload 2 1) from rfl) rfl
set_option maxRecDepth 20000 in
theorem r_law_law_358 : je X 0 358 [some (.inr r), l1, l2, l3] S σ = je X 0 359 [some (.inr r), l1, l2, l3] (.inr r :: S) σ := je_aload (show jm_fe 0 358 = some (jk_aload 0 1) from rfl) rfl
set_option maxRecDepth 20000 in
theorem r_law_law_359 : je X 0 359 [l0, l1, l2, some (.inl x)] S σ = je X 0 360 [l0, l1, l2, some (.inl x)] (.inl x :: S) σ := je_iload (show jm_fe 0 359 = some (jk_iload 3 1) from rfl) rfl
set_option maxRecDepth 20000 in
theorem r_law_law_360 : je X 0 360 L S σ = je X 0 361 L (.inl 1 :: S) σ := je_const (show jm_fe 0 360 = some (jk_const 1 1) from rfl)
set_option maxRecDepth 20000 in
theorem r_law_law_361 : je X 0 361 L (.inl q :: .inl p :: S) σ = je X 0 362 L (.inl (p + q) :: S) σ := je_bin (show jm_fe 0 361 = some (jb_iadd) from rfl)
set_option maxRecDepth 20000 in
theorem r_law_law_362 (hi : jm_in p X.1 = true) : je X 0 362 L (.inl p :: .inr (.inr u) :: S) σ = je X 0 363 L (.inl (X.2 p.toNatClampNeg) :: S) σ := je_sld (show jm_fe 0 362 = some (jk_sld) from rfl) hi
set_option maxRecDepth 20000 in
theorem r_law_law_363 (hc : jm_cl σ.1 a = some 9) (h8 : S.length ≤ 8) : je X 0 363 L (v0 :: .inr (.inl (some a)) :: S) σ = je_c X 0 366 L S (je X 29 0 [some (.inr (.inl (some a))), some v0] [] σ) := je_callV (as := [v0]) (S' := S) (show jm_fe 0 363 = some (jk_callV 29 1 9) from rfl) rfl hc h8
set_option maxRecDepth 20000 in
theorem r_law_law_366 : je X 0 366 L (.inl q :: .inl p :: S) σ = if p = q then je X 0 656 L S σ else je X 0 369 L S σ := je_icmp_eq (show jm_fe 0 366 = some (jk_icmp .eq 656) from rfl)
set_option maxRecDepth 20000 in
theorem r_law_law_369 : je X 0 369 L S σ = je X 0 370 L (.inl 0 :: S) σ := je_const (show jm_fe 0 369 = some (jk_const 0 1) from rfl)
set_option maxRecDepth 20000 in
theorem r_law_law_370 (hx : p = 0 ∨ p = 1) : je X 0 370 L [.inl p] σ = some (some (.inl p), σ) := je_zret (show jm_fe 0 370 = some (jk_zret) from rfl) hx
set_option maxRecDepth 20000 in
theorem r_law_law_371 : je X 0 371 [l0, some (.inr r), l2, l3] S σ = je X 0 372 [l0, some (.inr r), l2, l3] (.inr r :: S) σ := je_aload (show jm_fe 0 371 = some (jk_aload 1 1) from rfl) rfl
set_option maxRecDepth 20000 in
theorem r_law_law_372 (hc : jm_cl σ.1 a = some 0) (h8 : S.length ≤ 8) : je X 0 372 L (.inr (.inl (some a)) :: S) σ = je_c X 0 375 L S (je X 9 0 [some (.inr (.inl (some a)))] [] σ) := je_callV (as := []) (S' := S) (show jm_fe 0 372 = some (jk_callV 9 0 0) from rfl) rfl hc h8
set_option maxRecDepth 20000 in
theorem r_law_law_375 : je X 0 375 [l0, l1, some (.inr r), l3] S σ = je X 0 376 [l0, l1, some (.inr r), l3] (.inr r :: S) σ := je_aload (show jm_fe 0 375 = some (jk_aload 2 1) from rfl) rfl
set_option maxRecDepth 20000 in
theorem r_law_law_376 (hc : jm_cl σ.1 a = some 9) (h8 : S.length ≤ 8) : je X 0 376 L (.inr (.inl (some a)) :: S) σ = je_c X 0 379 L S (je X 30 0 [some (.inr (.inl (some a)))] [] σ) := je_callV (as := []) (S' := S) (show jm_fe 0 376 = some (jk_callV 30 0 9) from rfl) rfl hc h8
set_option maxRecDepth 20000 in
theorem r_law_law_379 : je X 0 379 L S σ = je X 0 656 L S σ := je_goto (show jm_fe 0 379 = some (jk_goto 656) from rfl)
set_option maxRecDepth 20000 in
theorem r_law_law_382 : je X 0 382 [l0, some (.inr r), l2, l3] S σ = je X 0 383 [l0, some (.inr r), l2, l3] (.inr r :: S) σ := je_aload (show jm_fe 0 382 = some (jk_aload 1 1) from rfl) rfl
set_option maxRecDepth 20000 in
theorem r_law_law_383 (hc : jm_cl σ.1 a = some 0) (h8 : S.length ≤ 8) : je X 0 383 L (.inr (.inl (some a)) :: S) σ = je_c X 0 386 L S (je X 10 0 [some (.inr (.inl (some a)))] [] σ) := je_callV (as := []) (S' := S) (show jm_fe 0 383 = some (jk_callV 10 0 0) from rfl) rfl hc h8
set_option maxRecDepth 20000 in
theorem r_law_law_386 : je X 0 386 [l0, l1, some (.inr r), l3] S σ = je X 0 387 [l0, l1, some (.inr r), l3] (.inr r :: S) σ := je_aload (show jm_fe 0 386 = some (jk_aload 2 1) from rfl) rfl
set_option maxRecDepth 20000 in
theorem r_law_law_387 (hc : jm_cl σ.1 a = some 9) (h8 : S.length ≤ 8) : je X 0 387 L (.inr (.inl (some a)) :: S) σ = je_c X 0 390 L S (je X 31 0 [some (.inr (.inl (some a)))] [] σ) := je_callV (as := []) (S' := S) (show jm_fe 0 387 = some (jk_callV 31 0 9) from rfl) rfl hc h8
set_option maxRecDepth 20000 in
theorem r_law_law_390 : je X 0 390 L S σ = je X 0 656 L S σ := je_goto (show jm_fe 0 390 = some (jk_goto 656) from rfl)
set_option maxRecDepth 20000 in
theorem r_law_law_393 : je X 0 393 [l0, some (.inr r), l2, l3] S σ = je X 0 394 [l0, some (.inr r), l2, l3] (.inr r :: S) σ := je_aload (show jm_fe 0 393 = some (jk_aload 1 1) from rfl) rfl
set_option maxRecDepth 20000 in
theorem r_law_law_394 : je X 0 394 [some (.inr r), l1, l2, l3] S σ = je X 0 395 [some (.inr r), l1, l2, l3] (.inr r :: S) σ := je_aload (show jm_fe 0 394 = some (jk_aload 0 1) from rfl) rfl
set_option maxRecDepth 20000 in
theorem r_law_law_395 : je X 0 395 [l0, l1, l2, some (.inl x)] S σ = je X 0 396 [l0, l1, l2, some (.inl x)] (.inl x :: S) σ := je_iload (show jm_fe 0 395 = some (jk_iload 3 1) from rfl) rfl
set_option maxRecDepth 20000 in
theorem r_law_law_396 : je X 0 396 L S σ = je X 0 397 L (.inl 1 :: S) σ := je_const (show jm_fe 0 396 = some (jk_const 1 1) from rfl)
set_option maxRecDepth 20000 in
theorem r_law_law_397 : je X 0 397 L (.inl q :: .inl p :: S) σ = je X 0 398 L (.inl (p + q) :: S) σ := je_bin (show jm_fe 0 397 = some (jb_iadd) from rfl)
set_option maxRecDepth 20000 in
theorem r_law_law_398 (hi : jm_in p X.1 = true) : je X 0 398 L (.inl p :: .inr (.inr u) :: S) σ = je X 0 399 L (.inl (X.2 p.toNatClampNeg) :: S) σ := je_sld (show jm_fe 0 398 = some (jk_sld) from rfl) hi
set_option maxRecDepth 20000 in
theorem r_law_law_399 (hc : jm_cl σ.1 a = some 0) (h8 : S.length ≤ 8) : je X 0 399 L (v0 :: .inr (.inl (some a)) :: S) σ = je_c X 0 402 L S (je X 11 0 [some (.inr (.inl (some a))), some v0, none] [] σ) := je_callV (as := [v0]) (S' := S) (show jm_fe 0 399 = some (jk_callV 11 1 0) from rfl) rfl hc h8
set_option maxRecDepth 20000 in
theorem r_law_law_402 : je X 0 402 [l0, l1, some (.inr r), l3] S σ = je X 0 403 [l0, l1, some (.inr r), l3] (.inr r :: S) σ := je_aload (show jm_fe 0 402 = some (jk_aload 2 1) from rfl) rfl
set_option maxRecDepth 20000 in
theorem r_law_law_403 : je X 0 403 [some (.inr r), l1, l2, l3] S σ = je X 0 404 [some (.inr r), l1, l2, l3] (.inr r :: S) σ := je_aload (show jm_fe 0 403 = some (jk_aload 0 1) from rfl) rfl
set_option maxRecDepth 20000 in
theorem r_law_law_404 : je X 0 404 [l0, l1, l2, some (.inl x)] S σ = je X 0 405 [l0, l1, l2, some (.inl x)] (.inl x :: S) σ := je_iload (show jm_fe 0 404 = some (jk_iload 3 1) from rfl) rfl
set_option maxRecDepth 20000 in
theorem r_law_law_405 : je X 0 405 L S σ = je X 0 406 L (.inl 1 :: S) σ := je_const (show jm_fe 0 405 = some (jk_const 1 1) from rfl)
set_option maxRecDepth 20000 in
theorem r_law_law_406 : je X 0 406 L (.inl q :: .inl p :: S) σ = je X 0 407 L (.inl (p + q) :: S) σ := je_bin (show jm_fe 0 406 = some (jb_iadd) from rfl)
set_option maxRecDepth 20000 in
theorem r_law_law_407 (hi : jm_in p X.1 = true) : je X 0 407 L (.inl p :: .inr (.inr u) :: S) σ = je X 0 408 L (.inl (X.2 p.toNatClampNeg) :: S) σ := je_sld (show jm_fe 0 407 = some (jk_sld) from rfl) hi
set_option maxRecDepth 20000 in
theorem r_law_law_408 (hc : jm_cl σ.1 a = some 9) (h8 : S.length ≤ 8) : je X 0 408 L (v0 :: .inr (.inl (some a)) :: S) σ = je_c X 0 411 L S (je X 54 0 [some (.inr (.inl (some a))), some v0, none, none] [] σ) := je_callV (as := [v0]) (S' := S) (show jm_fe 0 408 = some (jk_callV 54 1 9) from rfl) rfl hc h8
set_option maxRecDepth 20000 in
theorem r_law_law_411 : je X 0 411 L (.inl q :: .inl p :: S) σ = if p = q then je X 0 656 L S σ else je X 0 414 L S σ := je_icmp_eq (show jm_fe 0 411 = some (jk_icmp .eq 656) from rfl)
set_option maxRecDepth 20000 in
theorem r_law_law_414 : je X 0 414 L S σ = je X 0 415 L (.inl 0 :: S) σ := je_const (show jm_fe 0 414 = some (jk_const 0 1) from rfl)
set_option maxRecDepth 20000 in
theorem r_law_law_415 (hx : p = 0 ∨ p = 1) : je X 0 415 L [.inl p] σ = some (some (.inl p), σ) := je_zret (show jm_fe 0 415 = some (jk_zret) from rfl) hx
set_option maxRecDepth 20000 in
theorem r_law_law_416 : je X 0 416 [l0, some (.inr r), l2, l3] S σ = je X 0 417 [l0, some (.inr r), l2, l3] (.inr r :: S) σ := je_aload (show jm_fe 0 416 = some (jk_aload 1 1) from rfl) rfl
set_option maxRecDepth 20000 in
theorem r_law_law_417 : je X 0 417 [some (.inr r), l1, l2, l3] S σ = je X 0 418 [some (.inr r), l1, l2, l3] (.inr r :: S) σ := je_aload (show jm_fe 0 417 = some (jk_aload 0 1) from rfl) rfl
set_option maxRecDepth 20000 in
theorem r_law_law_418 : je X 0 418 [l0, l1, l2, some (.inl x)] S σ = je X 0 419 [l0, l1, l2, some (.inl x)] (.inl x :: S) σ := je_iload (show jm_fe 0 418 = some (jk_iload 3 1) from rfl) rfl
set_option maxRecDepth 20000 in
theorem r_law_law_419 : je X 0 419 L S σ = je X 0 420 L (.inl 1 :: S) σ := je_const (show jm_fe 0 419 = some (jk_const 1 1) from rfl)
set_option maxRecDepth 20000 in
theorem r_law_law_420 : je X 0 420 L (.inl q :: .inl p :: S) σ = je X 0 421 L (.inl (p + q) :: S) σ := je_bin (show jm_fe 0 420 = some (jb_iadd) from rfl)
set_option maxRecDepth 20000 in
theorem r_law_law_421 (hi : jm_in p X.1 = true) : je X 0 421 L (.inl p :: .inr (.inr u) :: S) σ = je X 0 422 L (.inl (X.2 p.toNatClampNeg) :: S) σ := je_sld (show jm_fe 0 421 = some (jk_sld) from rfl) hi
set_option maxRecDepth 20000 in
theorem r_law_law_422 : je X 0 422 [some (.inr r), l1, l2, l3] S σ = je X 0 423 [some (.inr r), l1, l2, l3] (.inr r :: S) σ := je_aload (show jm_fe 0 422 = some (jk_aload 0 1) from rfl) rfl
set_option maxRecDepth 20000 in
theorem r_law_law_423 : je X 0 423 [l0, l1, l2, some (.inl x)] S σ = je X 0 424 [l0, l1, l2, some (.inl x)] (.inl x :: S) σ := je_iload (show jm_fe 0 423 = some (jk_iload 3 1) from rfl) rfl
set_option maxRecDepth 20000 in
theorem r_law_law_424 : je X 0 424 L S σ = je X 0 425 L (.inl 2 :: S) σ := je_const (show jm_fe 0 424 = some (jk_const 2 1) from rfl)
set_option maxRecDepth 20000 in
theorem r_law_law_425 : je X 0 425 L (.inl q :: .inl p :: S) σ = je X 0 426 L (.inl (p + q) :: S) σ := je_bin (show jm_fe 0 425 = some (jb_iadd) from rfl)
set_option maxRecDepth 20000 in
theorem r_law_law_426 (hi : jm_in p X.1 = true) : je X 0 426 L (.inl p :: .inr (.inr u) :: S) σ = je X 0 427 L (.inl (X.2 p.toNatClampNeg) :: S) σ := je_sld (show jm_fe 0 426 = some (jk_sld) from rfl) hi
set_option maxRecDepth 20000 in
theorem r_law_law_427 (hc : jm_cl σ.1 a = some 0) (h8 : S.length ≤ 8) : je X 0 427 L (v1 :: v0 :: .inr (.inl (some a)) :: S) σ = je_c X 0 430 L S (je X 12 0 [some (.inr (.inl (some a))), some v0, some v1, none] [] σ) := je_callV (as := [v0, v1]) (S' := S) (show jm_fe 0 427 = some (jk_callV 12 2 0) from rfl) rfl hc h8
set_option maxRecDepth 20000 in
theorem r_law_law_430 : je X 0 430 [l0, l1, some (.inr r), l3] S σ = je X 0 431 [l0, l1, some (.inr r), l3] (.inr r :: S) σ := je_aload (show jm_fe 0 430 = some (jk_aload 2 1) from rfl) rfl
set_option maxRecDepth 20000 in
theorem r_law_law_431 : je X 0 431 [some (.inr r), l1, l2, l3] S σ = je X 0 432 [some (.inr r), l1, l2, l3] (.inr r :: S) σ := je_aload (show jm_fe 0 431 = some (jk_aload 0 1) from rfl) rfl
set_option maxRecDepth 20000 in
theorem r_law_law_432 : je X 0 432 [l0, l1, l2, some (.inl x)] S σ = je X 0 433 [l0, l1, l2, some (.inl x)] (.inl x :: S) σ := je_iload (show jm_fe 0 432 = some (jk_iload 3 1) from rfl) rfl
set_option maxRecDepth 20000 in
theorem r_law_law_433 : je X 0 433 L S σ = je X 0 434 L (.inl 1 :: S) σ := je_const (show jm_fe 0 433 = some (jk_const 1 1) from rfl)
set_option maxRecDepth 20000 in
theorem r_law_law_434 : je X 0 434 L (.inl q :: .inl p :: S) σ = je X 0 435 L (.inl (p + q) :: S) σ := je_bin (show jm_fe 0 434 = some (jb_iadd) from rfl)
set_option maxRecDepth 20000 in
theorem r_law_law_435 (hi : jm_in p X.1 = true) : je X 0 435 L (.inl p :: .inr (.inr u) :: S) σ = je X 0 436 L (.inl (X.2 p.toNatClampNeg) :: S) σ := je_sld (show jm_fe 0 435 = some (jk_sld) from rfl) hi
set_option maxRecDepth 20000 in
theorem r_law_law_436 : je X 0 436 [some (.inr r), l1, l2, l3] S σ = je X 0 437 [some (.inr r), l1, l2, l3] (.inr r :: S) σ := je_aload (show jm_fe 0 436 = some (jk_aload 0 1) from rfl) rfl
set_option maxRecDepth 20000 in
theorem r_law_law_437 : je X 0 437 [l0, l1, l2, some (.inl x)] S σ = je X 0 438 [l0, l1, l2, some (.inl x)] (.inl x :: S) σ := je_iload (show jm_fe 0 437 = some (jk_iload 3 1) from rfl) rfl
set_option maxRecDepth 20000 in
theorem r_law_law_438 : je X 0 438 L S σ = je X 0 439 L (.inl 2 :: S) σ := je_const (show jm_fe 0 438 = some (jk_const 2 1) from rfl)
set_option maxRecDepth 20000 in
theorem r_law_law_439 : je X 0 439 L (.inl q :: .inl p :: S) σ = je X 0 440 L (.inl (p + q) :: S) σ := je_bin (show jm_fe 0 439 = some (jb_iadd) from rfl)
set_option maxRecDepth 20000 in
theorem r_law_law_440 (hi : jm_in p X.1 = true) : je X 0 440 L (.inl p :: .inr (.inr u) :: S) σ = je X 0 441 L (.inl (X.2 p.toNatClampNeg) :: S) σ := je_sld (show jm_fe 0 440 = some (jk_sld) from rfl) hi
set_option maxRecDepth 20000 in
theorem r_law_law_441 (hc : jm_cl σ.1 a = some 9) (h8 : S.length ≤ 8) : je X 0 441 L (v1 :: v0 :: .inr (.inl (some a)) :: S) σ = je_c X 0 444 L S (je X 56 0 [some (.inr (.inl (some a))), some v0, some v1, none] [] σ) := je_callV (as := [v0, v1]) (S' := S) (show jm_fe 0 441 = some (jk_callV 56 2 9) from rfl) rfl hc h8
set_option maxRecDepth 20000 in
theorem r_law_law_444 : je X 0 444 L (.inl q :: .inl p :: S) σ = if p = q then je X 0 656 L S σ else je X 0 447 L S σ := je_icmp_eq (show jm_fe 0 444 = some (jk_icmp .eq 656) from rfl)
set_option maxRecDepth 20000 in
theorem r_law_law_447 : je X 0 447 L S σ = je X 0 448 L (.inl 0 :: S) σ := je_const (show jm_fe 0 447 = some (jk_const 0 1) from rfl)
set_option maxRecDepth 20000 in
theorem r_law_law_448 (hx : p = 0 ∨ p = 1) : je X 0 448 L [.inl p] σ = some (some (.inl p), σ) := je_zret (show jm_fe 0 448 = some (jk_zret) from rfl) hx
set_option maxRecDepth 20000 in
theorem r_law_law_449 : je X 0 449 [l0, some (.inr r), l2, l3] S σ = je X 0 450 [l0, some (.inr r), l2, l3] (.inr r :: S) σ := je_aload (show jm_fe 0 449 = some (jk_aload 1 1) from rfl) rfl
set_option maxRecDepth 20000 in
theorem r_law_law_450 : je X 0 450 [some (.inr r), l1, l2, l3] S σ = je X 0 451 [some (.inr r), l1, l2, l3] (.inr r :: S) σ := je_aload (show jm_fe 0 450 = some (jk_aload 0 1) from rfl) rfl
set_option maxRecDepth 20000 in
theorem r_law_law_451 : je X 0 451 [l0, l1, l2, some (.inl x)] S σ = je X 0 452 [l0, l1, l2, some (.inl x)] (.inl x :: S) σ := je_iload (show jm_fe 0 451 = some (jk_iload 3 1) from rfl) rfl
set_option maxRecDepth 20000 in
theorem r_law_law_452 : je X 0 452 L S σ = je X 0 453 L (.inl 1 :: S) σ := je_const (show jm_fe 0 452 = some (jk_const 1 1) from rfl)
set_option maxRecDepth 20000 in
theorem r_law_law_453 : je X 0 453 L (.inl q :: .inl p :: S) σ = je X 0 454 L (.inl (p + q) :: S) σ := je_bin (show jm_fe 0 453 = some (jb_iadd) from rfl)
set_option maxRecDepth 20000 in
theorem r_law_law_454 (hi : jm_in p X.1 = true) : je X 0 454 L (.inl p :: .inr (.inr u) :: S) σ = je X 0 455 L (.inl (X.2 p.toNatClampNeg) :: S) σ := je_sld (show jm_fe 0 454 = some (jk_sld) from rfl) hi
set_option maxRecDepth 20000 in
theorem r_law_law_455 : je X 0 455 [some (.inr r), l1, l2, l3] S σ = je X 0 456 [some (.inr r), l1, l2, l3] (.inr r :: S) σ := je_aload (show jm_fe 0 455 = some (jk_aload 0 1) from rfl) rfl
set_option maxRecDepth 20000 in
theorem r_law_law_456 : je X 0 456 [l0, l1, l2, some (.inl x)] S σ = je X 0 457 [l0, l1, l2, some (.inl x)] (.inl x :: S) σ := je_iload (show jm_fe 0 456 = some (jk_iload 3 1) from rfl) rfl
set_option maxRecDepth 20000 in
theorem r_law_law_457 : je X 0 457 L S σ = je X 0 458 L (.inl 2 :: S) σ := je_const (show jm_fe 0 457 = some (jk_const 2 1) from rfl)
set_option maxRecDepth 20000 in
theorem r_law_law_458 : je X 0 458 L (.inl q :: .inl p :: S) σ = je X 0 459 L (.inl (p + q) :: S) σ := je_bin (show jm_fe 0 458 = some (jb_iadd) from rfl)
set_option maxRecDepth 20000 in
theorem r_law_law_459 (hi : jm_in p X.1 = true) : je X 0 459 L (.inl p :: .inr (.inr u) :: S) σ = je X 0 460 L (.inl (X.2 p.toNatClampNeg) :: S) σ := je_sld (show jm_fe 0 459 = some (jk_sld) from rfl) hi
set_option maxRecDepth 20000 in
theorem r_law_law_460 : je X 0 460 L (.inl p :: S) σ = if p = 0 then je X 0 467 L S σ else je X 0 463 L S σ := je_if_eq (show jm_fe 0 460 = some (jk_if .eq 467) from rfl)
set_option maxRecDepth 20000 in
theorem r_law_law_463 : je X 0 463 L S σ = je X 0 464 L (.inl 1 :: S) σ := je_const (show jm_fe 0 463 = some (jk_const 1 1) from rfl)
set_option maxRecDepth 20000 in
theorem r_law_law_464 : je X 0 464 L S σ = je X 0 468 L S σ := je_goto (show jm_fe 0 464 = some (jk_goto 468) from rfl)
set_option maxRecDepth 20000 in
theorem r_law_law_467 : je X 0 467 L S σ = je X 0 468 L (.inl 0 :: S) σ := je_const (show jm_fe 0 467 = some (jk_const 0 1) from rfl)
set_option maxRecDepth 20000 in
theorem r_law_law_468 : je X 0 468 [some (.inr r), l1, l2, l3] S σ = je X 0 469 [some (.inr r), l1, l2, l3] (.inr r :: S) σ := je_aload (show jm_fe 0 468 = some (jk_aload 0 1) from rfl) rfl
set_option maxRecDepth 20000 in
theorem r_law_law_469 : je X 0 469 [l0, l1, l2, some (.inl x)] S σ = je X 0 470 [l0, l1, l2, some (.inl x)] (.inl x :: S) σ := je_iload (show jm_fe 0 469 = some (jk_iload 3 1) from rfl) rfl
set_option maxRecDepth 20000 in
theorem r_law_law_470 : je X 0 470 L S σ = je X 0 471 L (.inl 3 :: S) σ := je_const (show jm_fe 0 470 = some (jk_const 3 1) from rfl)
set_option maxRecDepth 20000 in
theorem r_law_law_471 : je X 0 471 L (.inl q :: .inl p :: S) σ = je X 0 472 L (.inl (p + q) :: S) σ := je_bin (show jm_fe 0 471 = some (jb_iadd) from rfl)
set_option maxRecDepth 20000 in
theorem r_law_law_472 (hi : jm_in p X.1 = true) : je X 0 472 L (.inl p :: .inr (.inr u) :: S) σ = je X 0 473 L (.inl (X.2 p.toNatClampNeg) :: S) σ := je_sld (show jm_fe 0 472 = some (jk_sld) from rfl) hi
set_option maxRecDepth 20000 in
theorem r_law_law_473 (hc : jm_cl σ.1 a = some 0) (h8 : S.length ≤ 8) : je X 0 473 L (v2 :: v1 :: v0 :: .inr (.inl (some a)) :: S) σ = je_c X 0 476 L S (je X 13 0 [some (.inr (.inl (some a))), some v0, some v1, some v2, none] [] σ) := je_callV (as := [v0, v1, v2]) (S' := S) (show jm_fe 0 473 = some (jk_callV 13 3 0) from rfl) rfl hc h8
set_option maxRecDepth 20000 in
theorem r_law_law_476 : je X 0 476 [l0, l1, some (.inr r), l3] S σ = je X 0 477 [l0, l1, some (.inr r), l3] (.inr r :: S) σ := je_aload (show jm_fe 0 476 = some (jk_aload 2 1) from rfl) rfl
set_option maxRecDepth 20000 in
theorem r_law_law_477 : je X 0 477 [some (.inr r), l1, l2, l3] S σ = je X 0 478 [some (.inr r), l1, l2, l3] (.inr r :: S) σ := je_aload (show jm_fe 0 477 = some (jk_aload 0 1) from rfl) rfl
set_option maxRecDepth 20000 in
theorem r_law_law_478 : je X 0 478 [l0, l1, l2, some (.inl x)] S σ = je X 0 479 [l0, l1, l2, some (.inl x)] (.inl x :: S) σ := je_iload (show jm_fe 0 478 = some (jk_iload 3 1) from rfl) rfl
set_option maxRecDepth 20000 in
theorem r_law_law_479 : je X 0 479 L S σ = je X 0 480 L (.inl 1 :: S) σ := je_const (show jm_fe 0 479 = some (jk_const 1 1) from rfl)
set_option maxRecDepth 20000 in
theorem r_law_law_480 : je X 0 480 L (.inl q :: .inl p :: S) σ = je X 0 481 L (.inl (p + q) :: S) σ := je_bin (show jm_fe 0 480 = some (jb_iadd) from rfl)
set_option maxRecDepth 20000 in
theorem r_law_law_481 (hi : jm_in p X.1 = true) : je X 0 481 L (.inl p :: .inr (.inr u) :: S) σ = je X 0 482 L (.inl (X.2 p.toNatClampNeg) :: S) σ := je_sld (show jm_fe 0 481 = some (jk_sld) from rfl) hi
set_option maxRecDepth 20000 in
theorem r_law_law_482 : je X 0 482 [some (.inr r), l1, l2, l3] S σ = je X 0 483 [some (.inr r), l1, l2, l3] (.inr r :: S) σ := je_aload (show jm_fe 0 482 = some (jk_aload 0 1) from rfl) rfl
set_option maxRecDepth 20000 in
theorem r_law_law_483 : je X 0 483 [l0, l1, l2, some (.inl x)] S σ = je X 0 484 [l0, l1, l2, some (.inl x)] (.inl x :: S) σ := je_iload (show jm_fe 0 483 = some (jk_iload 3 1) from rfl) rfl
set_option maxRecDepth 20000 in
theorem r_law_law_484 : je X 0 484 L S σ = je X 0 485 L (.inl 2 :: S) σ := je_const (show jm_fe 0 484 = some (jk_const 2 1) from rfl)
set_option maxRecDepth 20000 in
theorem r_law_law_485 : je X 0 485 L (.inl q :: .inl p :: S) σ = je X 0 486 L (.inl (p + q) :: S) σ := je_bin (show jm_fe 0 485 = some (jb_iadd) from rfl)
set_option maxRecDepth 20000 in
theorem r_law_law_486 (hi : jm_in p X.1 = true) : je X 0 486 L (.inl p :: .inr (.inr u) :: S) σ = je X 0 487 L (.inl (X.2 p.toNatClampNeg) :: S) σ := je_sld (show jm_fe 0 486 = some (jk_sld) from rfl) hi
set_option maxRecDepth 20000 in
theorem r_law_law_487 : je X 0 487 L (.inl p :: S) σ = if p = 0 then je X 0 494 L S σ else je X 0 490 L S σ := je_if_eq (show jm_fe 0 487 = some (jk_if .eq 494) from rfl)
set_option maxRecDepth 20000 in
theorem r_law_law_490 : je X 0 490 L S σ = je X 0 491 L (.inl 1 :: S) σ := je_const (show jm_fe 0 490 = some (jk_const 1 1) from rfl)
set_option maxRecDepth 20000 in
theorem r_law_law_491 : je X 0 491 L S σ = je X 0 495 L S σ := je_goto (show jm_fe 0 491 = some (jk_goto 495) from rfl)
set_option maxRecDepth 20000 in
theorem r_law_law_494 : je X 0 494 L S σ = je X 0 495 L (.inl 0 :: S) σ := je_const (show jm_fe 0 494 = some (jk_const 0 1) from rfl)
set_option maxRecDepth 20000 in
theorem r_law_law_495 : je X 0 495 [some (.inr r), l1, l2, l3] S σ = je X 0 496 [some (.inr r), l1, l2, l3] (.inr r :: S) σ := je_aload (show jm_fe 0 495 = some (jk_aload 0 1) from rfl) rfl
set_option maxRecDepth 20000 in
theorem r_law_law_496 : je X 0 496 [l0, l1, l2, some (.inl x)] S σ = je X 0 497 [l0, l1, l2, some (.inl x)] (.inl x :: S) σ := je_iload (show jm_fe 0 496 = some (jk_iload 3 1) from rfl) rfl
set_option maxRecDepth 20000 in
theorem r_law_law_497 : je X 0 497 L S σ = je X 0 498 L (.inl 3 :: S) σ := je_const (show jm_fe 0 497 = some (jk_const 3 1) from rfl)
set_option maxRecDepth 20000 in
theorem r_law_law_498 : je X 0 498 L (.inl q :: .inl p :: S) σ = je X 0 499 L (.inl (p + q) :: S) σ := je_bin (show jm_fe 0 498 = some (jb_iadd) from rfl)
set_option maxRecDepth 20000 in
theorem r_law_law_499 (hi : jm_in p X.1 = true) : je X 0 499 L (.inl p :: .inr (.inr u) :: S) σ = je X 0 500 L (.inl (X.2 p.toNatClampNeg) :: S) σ := je_sld (show jm_fe 0 499 = some (jk_sld) from rfl) hi
set_option maxRecDepth 20000 in
theorem r_law_law_500 (hc : jm_cl σ.1 a = some 9) (h8 : S.length ≤ 8) : je X 0 500 L (v2 :: v1 :: v0 :: .inr (.inl (some a)) :: S) σ = je_c X 0 503 L S (je X 60 0 [some (.inr (.inl (some a))), some v0, some v1, some v2, none, none] [] σ) := je_callV (as := [v0, v1, v2]) (S' := S) (show jm_fe 0 500 = some (jk_callV 60 3 9) from rfl) rfl hc h8
set_option maxRecDepth 20000 in
theorem r_law_law_503 : je X 0 503 L (.inl q :: .inl p :: S) σ = if p = q then je X 0 656 L S σ else je X 0 506 L S σ := je_icmp_eq (show jm_fe 0 503 = some (jk_icmp .eq 656) from rfl)
set_option maxRecDepth 20000 in
theorem r_law_law_506 : je X 0 506 L S σ = je X 0 507 L (.inl 0 :: S) σ := je_const (show jm_fe 0 506 = some (jk_const 0 1) from rfl)
set_option maxRecDepth 20000 in
theorem r_law_law_507 (hx : p = 0 ∨ p = 1) : je X 0 507 L [.inl p] σ = some (some (.inl p), σ) := je_zret (show jm_fe 0 507 = some (jk_zret) from rfl) hx
set_option maxRecDepth 20000 in
theorem r_law_law_508 : je X 0 508 [l0, some (.inr r), l2, l3] S σ = je X 0 509 [l0, some (.inr r), l2, l3] (.inr r :: S) σ := je_aload (show jm_fe 0 508 = some (jk_aload 1 1) from rfl) rfl
set_option maxRecDepth 20000 in
theorem r_law_law_509 : je X 0 509 [some (.inr r), l1, l2, l3] S σ = je X 0 510 [some (.inr r), l1, l2, l3] (.inr r :: S) σ := je_aload (show jm_fe 0 509 = some (jk_aload 0 1) from rfl) rfl
set_option maxRecDepth 20000 in
theorem r_law_law_510 : je X 0 510 [l0, l1, l2, some (.inl x)] S σ = je X 0 511 [l0, l1, l2, some (.inl x)] (.inl x :: S) σ := je_iload (show jm_fe 0 510 = some (jk_iload 3 1) from rfl) rfl
set_option maxRecDepth 20000 in
theorem r_law_law_511 : je X 0 511 L S σ = je X 0 512 L (.inl 1 :: S) σ := je_const (show jm_fe 0 511 = some (jk_const 1 1) from rfl)
set_option maxRecDepth 20000 in
theorem r_law_law_512 : je X 0 512 L (.inl q :: .inl p :: S) σ = je X 0 513 L (.inl (p + q) :: S) σ := je_bin (show jm_fe 0 512 = some (jb_iadd) from rfl)
set_option maxRecDepth 20000 in
theorem r_law_law_513 (hi : jm_in p X.1 = true) : je X 0 513 L (.inl p :: .inr (.inr u) :: S) σ = je X 0 514 L (.inl (X.2 p.toNatClampNeg) :: S) σ := je_sld (show jm_fe 0 513 = some (jk_sld) from rfl) hi
set_option maxRecDepth 20000 in
theorem r_law_law_514 : je X 0 514 [some (.inr r), l1, l2, l3] S σ = je X 0 515 [some (.inr r), l1, l2, l3] (.inr r :: S) σ := je_aload (show jm_fe 0 514 = some (jk_aload 0 1) from rfl) rfl
set_option maxRecDepth 20000 in
theorem r_law_law_515 : je X 0 515 [l0, l1, l2, some (.inl x)] S σ = je X 0 516 [l0, l1, l2, some (.inl x)] (.inl x :: S) σ := je_iload (show jm_fe 0 515 = some (jk_iload 3 1) from rfl) rfl
set_option maxRecDepth 20000 in
theorem r_law_law_516 : je X 0 516 L S σ = je X 0 517 L (.inl 2 :: S) σ := je_const (show jm_fe 0 516 = some (jk_const 2 1) from rfl)
set_option maxRecDepth 20000 in
theorem r_law_law_517 : je X 0 517 L (.inl q :: .inl p :: S) σ = je X 0 518 L (.inl (p + q) :: S) σ := je_bin (show jm_fe 0 517 = some (jb_iadd) from rfl)
set_option maxRecDepth 20000 in
theorem r_law_law_518 (hi : jm_in p X.1 = true) : je X 0 518 L (.inl p :: .inr (.inr u) :: S) σ = je X 0 519 L (.inl (X.2 p.toNatClampNeg) :: S) σ := je_sld (show jm_fe 0 518 = some (jk_sld) from rfl) hi
set_option maxRecDepth 20000 in
theorem r_law_law_519 : je X 0 519 L (.inl p :: S) σ = if p = 0 then je X 0 526 L S σ else je X 0 522 L S σ := je_if_eq (show jm_fe 0 519 = some (jk_if .eq 526) from rfl)
set_option maxRecDepth 20000 in
theorem r_law_law_522 : je X 0 522 L S σ = je X 0 523 L (.inl 1 :: S) σ := je_const (show jm_fe 0 522 = some (jk_const 1 1) from rfl)
set_option maxRecDepth 20000 in
theorem r_law_law_523 : je X 0 523 L S σ = je X 0 527 L S σ := je_goto (show jm_fe 0 523 = some (jk_goto 527) from rfl)
set_option maxRecDepth 20000 in
theorem r_law_law_526 : je X 0 526 L S σ = je X 0 527 L (.inl 0 :: S) σ := je_const (show jm_fe 0 526 = some (jk_const 0 1) from rfl)
set_option maxRecDepth 20000 in
theorem r_law_law_527 : je X 0 527 [some (.inr r), l1, l2, l3] S σ = je X 0 528 [some (.inr r), l1, l2, l3] (.inr r :: S) σ := je_aload (show jm_fe 0 527 = some (jk_aload 0 1) from rfl) rfl
set_option maxRecDepth 20000 in
theorem r_law_law_528 : je X 0 528 [l0, l1, l2, some (.inl x)] S σ = je X 0 529 [l0, l1, l2, some (.inl x)] (.inl x :: S) σ := je_iload (show jm_fe 0 528 = some (jk_iload 3 1) from rfl) rfl
set_option maxRecDepth 20000 in
theorem r_law_law_529 : je X 0 529 L S σ = je X 0 530 L (.inl 3 :: S) σ := je_const (show jm_fe 0 529 = some (jk_const 3 1) from rfl)
set_option maxRecDepth 20000 in
theorem r_law_law_530 : je X 0 530 L (.inl q :: .inl p :: S) σ = je X 0 531 L (.inl (p + q) :: S) σ := je_bin (show jm_fe 0 530 = some (jb_iadd) from rfl)
set_option maxRecDepth 20000 in
theorem r_law_law_531 (hi : jm_in p X.1 = true) : je X 0 531 L (.inl p :: .inr (.inr u) :: S) σ = je X 0 532 L (.inl (X.2 p.toNatClampNeg) :: S) σ := je_sld (show jm_fe 0 531 = some (jk_sld) from rfl) hi
set_option maxRecDepth 20000 in
theorem r_law_law_532 (hc : jm_cl σ.1 a = some 0) (h8 : S.length ≤ 8) : je X 0 532 L (v2 :: v1 :: v0 :: .inr (.inl (some a)) :: S) σ = je_c X 0 535 L S (je X 14 0 [some (.inr (.inl (some a))), some v0, some v1, some v2, none] [] σ) := je_callV (as := [v0, v1, v2]) (S' := S) (show jm_fe 0 532 = some (jk_callV 14 3 0) from rfl) rfl hc h8
set_option maxRecDepth 20000 in
theorem r_law_law_535 : je X 0 535 [l0, l1, some (.inr r), l3] S σ = je X 0 536 [l0, l1, some (.inr r), l3] (.inr r :: S) σ := je_aload (show jm_fe 0 535 = some (jk_aload 2 1) from rfl) rfl
set_option maxRecDepth 20000 in
theorem r_law_law_536 : je X 0 536 [some (.inr r), l1, l2, l3] S σ = je X 0 537 [some (.inr r), l1, l2, l3] (.inr r :: S) σ := je_aload (show jm_fe 0 536 = some (jk_aload 0 1) from rfl) rfl
set_option maxRecDepth 20000 in
theorem r_law_law_537 : je X 0 537 [l0, l1, l2, some (.inl x)] S σ = je X 0 538 [l0, l1, l2, some (.inl x)] (.inl x :: S) σ := je_iload (show jm_fe 0 537 = some (jk_iload 3 1) from rfl) rfl
set_option maxRecDepth 20000 in
theorem r_law_law_538 : je X 0 538 L S σ = je X 0 539 L (.inl 1 :: S) σ := je_const (show jm_fe 0 538 = some (jk_const 1 1) from rfl)
set_option maxRecDepth 20000 in
theorem r_law_law_539 : je X 0 539 L (.inl q :: .inl p :: S) σ = je X 0 540 L (.inl (p + q) :: S) σ := je_bin (show jm_fe 0 539 = some (jb_iadd) from rfl)
set_option maxRecDepth 20000 in
theorem r_law_law_540 (hi : jm_in p X.1 = true) : je X 0 540 L (.inl p :: .inr (.inr u) :: S) σ = je X 0 541 L (.inl (X.2 p.toNatClampNeg) :: S) σ := je_sld (show jm_fe 0 540 = some (jk_sld) from rfl) hi
set_option maxRecDepth 20000 in
theorem r_law_law_541 : je X 0 541 [some (.inr r), l1, l2, l3] S σ = je X 0 542 [some (.inr r), l1, l2, l3] (.inr r :: S) σ := je_aload (show jm_fe 0 541 = some (jk_aload 0 1) from rfl) rfl
set_option maxRecDepth 20000 in
theorem r_law_law_542 : je X 0 542 [l0, l1, l2, some (.inl x)] S σ = je X 0 543 [l0, l1, l2, some (.inl x)] (.inl x :: S) σ := je_iload (show jm_fe 0 542 = some (jk_iload 3 1) from rfl) rfl
set_option maxRecDepth 20000 in
theorem r_law_law_543 : je X 0 543 L S σ = je X 0 544 L (.inl 2 :: S) σ := je_const (show jm_fe 0 543 = some (jk_const 2 1) from rfl)
set_option maxRecDepth 20000 in
theorem r_law_law_544 : je X 0 544 L (.inl q :: .inl p :: S) σ = je X 0 545 L (.inl (p + q) :: S) σ := je_bin (show jm_fe 0 544 = some (jb_iadd) from rfl)
set_option maxRecDepth 20000 in
theorem r_law_law_545 (hi : jm_in p X.1 = true) : je X 0 545 L (.inl p :: .inr (.inr u) :: S) σ = je X 0 546 L (.inl (X.2 p.toNatClampNeg) :: S) σ := je_sld (show jm_fe 0 545 = some (jk_sld) from rfl) hi
set_option maxRecDepth 20000 in
theorem r_law_law_546 : je X 0 546 L (.inl p :: S) σ = if p = 0 then je X 0 553 L S σ else je X 0 549 L S σ := je_if_eq (show jm_fe 0 546 = some (jk_if .eq 553) from rfl)
set_option maxRecDepth 20000 in
theorem r_law_law_549 : je X 0 549 L S σ = je X 0 550 L (.inl 1 :: S) σ := je_const (show jm_fe 0 549 = some (jk_const 1 1) from rfl)
set_option maxRecDepth 20000 in
theorem r_law_law_550 : je X 0 550 L S σ = je X 0 554 L S σ := je_goto (show jm_fe 0 550 = some (jk_goto 554) from rfl)
set_option maxRecDepth 20000 in
theorem r_law_law_553 : je X 0 553 L S σ = je X 0 554 L (.inl 0 :: S) σ := je_const (show jm_fe 0 553 = some (jk_const 0 1) from rfl)
set_option maxRecDepth 20000 in
theorem r_law_law_554 : je X 0 554 [some (.inr r), l1, l2, l3] S σ = je X 0 555 [some (.inr r), l1, l2, l3] (.inr r :: S) σ := je_aload (show jm_fe 0 554 = some (jk_aload 0 1) from rfl) rfl
set_option maxRecDepth 20000 in
theorem r_law_law_555 : je X 0 555 [l0, l1, l2, some (.inl x)] S σ = je X 0 556 [l0, l1, l2, some (.inl x)] (.inl x :: S) σ := je_iload (show jm_fe 0 555 = some (jk_iload 3 1) from rfl) rfl
set_option maxRecDepth 20000 in
theorem r_law_law_556 : je X 0 556 L S σ = je X 0 557 L (.inl 3 :: S) σ := je_const (show jm_fe 0 556 = some (jk_const 3 1) from rfl)
set_option maxRecDepth 20000 in
theorem r_law_law_557 : je X 0 557 L (.inl q :: .inl p :: S) σ = je X 0 558 L (.inl (p + q) :: S) σ := je_bin (show jm_fe 0 557 = some (jb_iadd) from rfl)
set_option maxRecDepth 20000 in
theorem r_law_law_558 (hi : jm_in p X.1 = true) : je X 0 558 L (.inl p :: .inr (.inr u) :: S) σ = je X 0 559 L (.inl (X.2 p.toNatClampNeg) :: S) σ := je_sld (show jm_fe 0 558 = some (jk_sld) from rfl) hi
set_option maxRecDepth 20000 in
theorem r_law_law_559 (hc : jm_cl σ.1 a = some 9) (h8 : S.length ≤ 8) : je X 0 559 L (v2 :: v1 :: v0 :: .inr (.inl (some a)) :: S) σ = je_c X 0 562 L S (je X 59 0 [some (.inr (.inl (some a))), some v0, some v1, some v2, none] [] σ) := je_callV (as := [v0, v1, v2]) (S' := S) (show jm_fe 0 559 = some (jk_callV 59 3 9) from rfl) rfl hc h8
set_option maxRecDepth 20000 in
theorem r_law_law_562 : je X 0 562 L (.inl q :: .inl p :: S) σ = if p = q then je X 0 656 L S σ else je X 0 565 L S σ := je_icmp_eq (show jm_fe 0 562 = some (jk_icmp .eq 656) from rfl)
set_option maxRecDepth 20000 in
theorem r_law_law_565 : je X 0 565 L S σ = je X 0 566 L (.inl 0 :: S) σ := je_const (show jm_fe 0 565 = some (jk_const 0 1) from rfl)
set_option maxRecDepth 20000 in
theorem r_law_law_566 (hx : p = 0 ∨ p = 1) : je X 0 566 L [.inl p] σ = some (some (.inl p), σ) := je_zret (show jm_fe 0 566 = some (jk_zret) from rfl) hx
set_option maxRecDepth 20000 in
theorem r_law_law_567 : je X 0 567 [l0, some (.inr r), l2, l3] S σ = je X 0 568 [l0, some (.inr r), l2, l3] (.inr r :: S) σ := je_aload (show jm_fe 0 567 = some (jk_aload 1 1) from rfl) rfl
set_option maxRecDepth 20000 in
theorem r_law_law_568 : je X 0 568 [some (.inr r), l1, l2, l3] S σ = je X 0 569 [some (.inr r), l1, l2, l3] (.inr r :: S) σ := je_aload (show jm_fe 0 568 = some (jk_aload 0 1) from rfl) rfl
set_option maxRecDepth 20000 in
theorem r_law_law_569 : je X 0 569 [l0, l1, l2, some (.inl x)] S σ = je X 0 570 [l0, l1, l2, some (.inl x)] (.inl x :: S) σ := je_iload (show jm_fe 0 569 = some (jk_iload 3 1) from rfl) rfl
set_option maxRecDepth 20000 in
theorem r_law_law_570 : je X 0 570 L S σ = je X 0 571 L (.inl 1 :: S) σ := je_const (show jm_fe 0 570 = some (jk_const 1 1) from rfl)
set_option maxRecDepth 20000 in
theorem r_law_law_571 : je X 0 571 L (.inl q :: .inl p :: S) σ = je X 0 572 L (.inl (p + q) :: S) σ := je_bin (show jm_fe 0 571 = some (jb_iadd) from rfl)
set_option maxRecDepth 20000 in
theorem r_law_law_572 (hi : jm_in p X.1 = true) : je X 0 572 L (.inl p :: .inr (.inr u) :: S) σ = je X 0 573 L (.inl (X.2 p.toNatClampNeg) :: S) σ := je_sld (show jm_fe 0 572 = some (jk_sld) from rfl) hi
set_option maxRecDepth 20000 in
theorem r_law_law_573 : je X 0 573 [some (.inr r), l1, l2, l3] S σ = je X 0 574 [some (.inr r), l1, l2, l3] (.inr r :: S) σ := je_aload (show jm_fe 0 573 = some (jk_aload 0 1) from rfl) rfl
set_option maxRecDepth 20000 in
theorem r_law_law_574 : je X 0 574 [l0, l1, l2, some (.inl x)] S σ = je X 0 575 [l0, l1, l2, some (.inl x)] (.inl x :: S) σ := je_iload (show jm_fe 0 574 = some (jk_iload 3 1) from rfl) rfl
set_option maxRecDepth 20000 in
theorem r_law_law_575 : je X 0 575 L S σ = je X 0 576 L (.inl 2 :: S) σ := je_const (show jm_fe 0 575 = some (jk_const 2 1) from rfl)
set_option maxRecDepth 20000 in
theorem r_law_law_576 : je X 0 576 L (.inl q :: .inl p :: S) σ = je X 0 577 L (.inl (p + q) :: S) σ := je_bin (show jm_fe 0 576 = some (jb_iadd) from rfl)
set_option maxRecDepth 20000 in
theorem r_law_law_577 (hi : jm_in p X.1 = true) : je X 0 577 L (.inl p :: .inr (.inr u) :: S) σ = je X 0 578 L (.inl (X.2 p.toNatClampNeg) :: S) σ := je_sld (show jm_fe 0 577 = some (jk_sld) from rfl) hi
set_option maxRecDepth 20000 in
theorem r_law_law_578 (hc : jm_cl σ.1 a = some 0) (h8 : S.length ≤ 8) : je X 0 578 L (v1 :: v0 :: .inr (.inl (some a)) :: S) σ = je_c X 0 581 L S (je X 15 0 [some (.inr (.inl (some a))), some v0, some v1] [] σ) := je_callV (as := [v0, v1]) (S' := S) (show jm_fe 0 578 = some (jk_callV 15 2 0) from rfl) rfl hc h8
set_option maxRecDepth 20000 in
theorem r_law_law_581 : je X 0 581 [l0, l1, some (.inr r), l3] S σ = je X 0 582 [l0, l1, some (.inr r), l3] (.inr r :: S) σ := je_aload (show jm_fe 0 581 = some (jk_aload 2 1) from rfl) rfl
set_option maxRecDepth 20000 in
theorem r_law_law_582 : je X 0 582 [some (.inr r), l1, l2, l3] S σ = je X 0 583 [some (.inr r), l1, l2, l3] (.inr r :: S) σ := je_aload (show jm_fe 0 582 = some (jk_aload 0 1) from rfl) rfl
set_option maxRecDepth 20000 in
theorem r_law_law_583 : je X 0 583 [l0, l1, l2, some (.inl x)] S σ = je X 0 584 [l0, l1, l2, some (.inl x)] (.inl x :: S) σ := je_iload (show jm_fe 0 583 = some (jk_iload 3 1) from rfl) rfl
set_option maxRecDepth 20000 in
theorem r_law_law_584 : je X 0 584 L S σ = je X 0 585 L (.inl 1 :: S) σ := je_const (show jm_fe 0 584 = some (jk_const 1 1) from rfl)
set_option maxRecDepth 20000 in
theorem r_law_law_585 : je X 0 585 L (.inl q :: .inl p :: S) σ = je X 0 586 L (.inl (p + q) :: S) σ := je_bin (show jm_fe 0 585 = some (jb_iadd) from rfl)
set_option maxRecDepth 20000 in
theorem r_law_law_586 (hi : jm_in p X.1 = true) : je X 0 586 L (.inl p :: .inr (.inr u) :: S) σ = je X 0 587 L (.inl (X.2 p.toNatClampNeg) :: S) σ := je_sld (show jm_fe 0 586 = some (jk_sld) from rfl) hi
set_option maxRecDepth 20000 in
theorem r_law_law_587 : je X 0 587 [some (.inr r), l1, l2, l3] S σ = je X 0 588 [some (.inr r), l1, l2, l3] (.inr r :: S) σ := je_aload (show jm_fe 0 587 = some (jk_aload 0 1) from rfl) rfl
set_option maxRecDepth 20000 in
theorem r_law_law_588 : je X 0 588 [l0, l1, l2, some (.inl x)] S σ = je X 0 589 [l0, l1, l2, some (.inl x)] (.inl x :: S) σ := je_iload (show jm_fe 0 588 = some (jk_iload 3 1) from rfl) rfl
set_option maxRecDepth 20000 in
theorem r_law_law_589 : je X 0 589 L S σ = je X 0 590 L (.inl 2 :: S) σ := je_const (show jm_fe 0 589 = some (jk_const 2 1) from rfl)
set_option maxRecDepth 20000 in
theorem r_law_law_590 : je X 0 590 L (.inl q :: .inl p :: S) σ = je X 0 591 L (.inl (p + q) :: S) σ := je_bin (show jm_fe 0 590 = some (jb_iadd) from rfl)
set_option maxRecDepth 20000 in
theorem r_law_law_591 (hi : jm_in p X.1 = true) : je X 0 591 L (.inl p :: .inr (.inr u) :: S) σ = je X 0 592 L (.inl (X.2 p.toNatClampNeg) :: S) σ := je_sld (show jm_fe 0 591 = some (jk_sld) from rfl) hi
set_option maxRecDepth 20000 in
theorem r_law_law_592 (hc : jm_cl σ.1 a = some 9) (h8 : S.length ≤ 8) : je X 0 592 L (v1 :: v0 :: .inr (.inl (some a)) :: S) σ = je_c X 0 595 L S (je X 61 0 [some (.inr (.inl (some a))), some v0, some v1] [] σ) := je_callV (as := [v0, v1]) (S' := S) (show jm_fe 0 592 = some (jk_callV 61 2 9) from rfl) rfl hc h8
set_option maxRecDepth 20000 in
theorem r_law_law_595 : je X 0 595 L (.inl q :: .inl p :: S) σ = if p = q then je X 0 656 L S σ else je X 0 598 L S σ := je_icmp_eq (show jm_fe 0 595 = some (jk_icmp .eq 656) from rfl)
set_option maxRecDepth 20000 in
theorem r_law_law_598 : je X 0 598 L S σ = je X 0 599 L (.inl 0 :: S) σ := je_const (show jm_fe 0 598 = some (jk_const 0 1) from rfl)
set_option maxRecDepth 20000 in
theorem r_law_law_599 (hx : p = 0 ∨ p = 1) : je X 0 599 L [.inl p] σ = some (some (.inl p), σ) := je_zret (show jm_fe 0 599 = some (jk_zret) from rfl) hx
set_option maxRecDepth 20000 in
theorem r_law_law_600 : je X 0 600 [l0, some (.inr r), l2, l3] S σ = je X 0 601 [l0, some (.inr r), l2, l3] (.inr r :: S) σ := je_aload (show jm_fe 0 600 = some (jk_aload 1 1) from rfl) rfl
set_option maxRecDepth 20000 in
theorem r_law_law_601 : je X 0 601 [some (.inr r), l1, l2, l3] S σ = je X 0 602 [some (.inr r), l1, l2, l3] (.inr r :: S) σ := je_aload (show jm_fe 0 601 = some (jk_aload 0 1) from rfl) rfl
set_option maxRecDepth 20000 in
theorem r_law_law_602 : je X 0 602 [l0, l1, l2, some (.inl x)] S σ = je X 0 603 [l0, l1, l2, some (.inl x)] (.inl x :: S) σ := je_iload (show jm_fe 0 602 = some (jk_iload 3 1) from rfl) rfl
set_option maxRecDepth 20000 in
theorem r_law_law_603 : je X 0 603 L S σ = je X 0 604 L (.inl 1 :: S) σ := je_const (show jm_fe 0 603 = some (jk_const 1 1) from rfl)
set_option maxRecDepth 20000 in
theorem r_law_law_604 : je X 0 604 L (.inl q :: .inl p :: S) σ = je X 0 605 L (.inl (p + q) :: S) σ := je_bin (show jm_fe 0 604 = some (jb_iadd) from rfl)
set_option maxRecDepth 20000 in
theorem r_law_law_605 (hi : jm_in p X.1 = true) : je X 0 605 L (.inl p :: .inr (.inr u) :: S) σ = je X 0 606 L (.inl (X.2 p.toNatClampNeg) :: S) σ := je_sld (show jm_fe 0 605 = some (jk_sld) from rfl) hi
set_option maxRecDepth 20000 in
theorem r_law_law_606 : je X 0 606 [some (.inr r), l1, l2, l3] S σ = je X 0 607 [some (.inr r), l1, l2, l3] (.inr r :: S) σ := je_aload (show jm_fe 0 606 = some (jk_aload 0 1) from rfl) rfl
set_option maxRecDepth 20000 in
theorem r_law_law_607 : je X 0 607 [l0, l1, l2, some (.inl x)] S σ = je X 0 608 [l0, l1, l2, some (.inl x)] (.inl x :: S) σ := je_iload (show jm_fe 0 607 = some (jk_iload 3 1) from rfl) rfl
set_option maxRecDepth 20000 in
theorem r_law_law_608 : je X 0 608 L S σ = je X 0 609 L (.inl 2 :: S) σ := je_const (show jm_fe 0 608 = some (jk_const 2 1) from rfl)
set_option maxRecDepth 20000 in
theorem r_law_law_609 : je X 0 609 L (.inl q :: .inl p :: S) σ = je X 0 610 L (.inl (p + q) :: S) σ := je_bin (show jm_fe 0 609 = some (jb_iadd) from rfl)
set_option maxRecDepth 20000 in
theorem r_law_law_610 (hi : jm_in p X.1 = true) : je X 0 610 L (.inl p :: .inr (.inr u) :: S) σ = je X 0 611 L (.inl (X.2 p.toNatClampNeg) :: S) σ := je_sld (show jm_fe 0 610 = some (jk_sld) from rfl) hi
set_option maxRecDepth 20000 in
theorem r_law_law_611 (hc : jm_cl σ.1 a = some 0) (h8 : S.length ≤ 8) : je X 0 611 L (v1 :: v0 :: .inr (.inl (some a)) :: S) σ = je_c X 0 614 L S (je X 16 0 [some (.inr (.inl (some a))), some v0, some v1] [] σ) := je_callV (as := [v0, v1]) (S' := S) (show jm_fe 0 611 = some (jk_callV 16 2 0) from rfl) rfl hc h8
set_option maxRecDepth 20000 in
theorem r_law_law_614 : je X 0 614 [l0, l1, some (.inr r), l3] S σ = je X 0 615 [l0, l1, some (.inr r), l3] (.inr r :: S) σ := je_aload (show jm_fe 0 614 = some (jk_aload 2 1) from rfl) rfl
set_option maxRecDepth 20000 in
theorem r_law_law_615 : je X 0 615 [some (.inr r), l1, l2, l3] S σ = je X 0 616 [some (.inr r), l1, l2, l3] (.inr r :: S) σ := je_aload (show jm_fe 0 615 = some (jk_aload 0 1) from rfl) rfl
set_option maxRecDepth 20000 in
theorem r_law_law_616 : je X 0 616 [l0, l1, l2, some (.inl x)] S σ = je X 0 617 [l0, l1, l2, some (.inl x)] (.inl x :: S) σ := je_iload (show jm_fe 0 616 = some (jk_iload 3 1) from rfl) rfl
set_option maxRecDepth 20000 in
theorem r_law_law_617 : je X 0 617 L S σ = je X 0 618 L (.inl 1 :: S) σ := je_const (show jm_fe 0 617 = some (jk_const 1 1) from rfl)
set_option maxRecDepth 20000 in
theorem r_law_law_618 : je X 0 618 L (.inl q :: .inl p :: S) σ = je X 0 619 L (.inl (p + q) :: S) σ := je_bin (show jm_fe 0 618 = some (jb_iadd) from rfl)
set_option maxRecDepth 20000 in
theorem r_law_law_619 (hi : jm_in p X.1 = true) : je X 0 619 L (.inl p :: .inr (.inr u) :: S) σ = je X 0 620 L (.inl (X.2 p.toNatClampNeg) :: S) σ := je_sld (show jm_fe 0 619 = some (jk_sld) from rfl) hi
set_option maxRecDepth 20000 in
theorem r_law_law_620 : je X 0 620 [some (.inr r), l1, l2, l3] S σ = je X 0 621 [some (.inr r), l1, l2, l3] (.inr r :: S) σ := je_aload (show jm_fe 0 620 = some (jk_aload 0 1) from rfl) rfl
set_option maxRecDepth 20000 in
theorem r_law_law_621 : je X 0 621 [l0, l1, l2, some (.inl x)] S σ = je X 0 622 [l0, l1, l2, some (.inl x)] (.inl x :: S) σ := je_iload (show jm_fe 0 621 = some (jk_iload 3 1) from rfl) rfl
set_option maxRecDepth 20000 in
theorem r_law_law_622 : je X 0 622 L S σ = je X 0 623 L (.inl 2 :: S) σ := je_const (show jm_fe 0 622 = some (jk_const 2 1) from rfl)
set_option maxRecDepth 20000 in
theorem r_law_law_623 : je X 0 623 L (.inl q :: .inl p :: S) σ = je X 0 624 L (.inl (p + q) :: S) σ := je_bin (show jm_fe 0 623 = some (jb_iadd) from rfl)
set_option maxRecDepth 20000 in
theorem r_law_law_624 (hi : jm_in p X.1 = true) : je X 0 624 L (.inl p :: .inr (.inr u) :: S) σ = je X 0 625 L (.inl (X.2 p.toNatClampNeg) :: S) σ := je_sld (show jm_fe 0 624 = some (jk_sld) from rfl) hi
set_option maxRecDepth 20000 in
theorem r_law_law_625 (hc : jm_cl σ.1 a = some 9) (h8 : S.length ≤ 8) : je X 0 625 L (v1 :: v0 :: .inr (.inl (some a)) :: S) σ = je_c X 0 628 L S (je X 62 0 [some (.inr (.inl (some a))), some v0, some v1] [] σ) := je_callV (as := [v0, v1]) (S' := S) (show jm_fe 0 625 = some (jk_callV 62 2 9) from rfl) rfl hc h8
set_option maxRecDepth 20000 in
theorem r_law_law_628 : je X 0 628 L (.inl q :: .inl p :: S) σ = if p = q then je X 0 656 L S σ else je X 0 631 L S σ := je_icmp_eq (show jm_fe 0 628 = some (jk_icmp .eq 656) from rfl)
set_option maxRecDepth 20000 in
theorem r_law_law_631 : je X 0 631 L S σ = je X 0 632 L (.inl 0 :: S) σ := je_const (show jm_fe 0 631 = some (jk_const 0 1) from rfl)
set_option maxRecDepth 20000 in
theorem r_law_law_632 (hx : p = 0 ∨ p = 1) : je X 0 632 L [.inl p] σ = some (some (.inl p), σ) := je_zret (show jm_fe 0 632 = some (jk_zret) from rfl) hx
set_option maxRecDepth 20000 in
theorem r_law_law_633 : je X 0 633 [l0, some (.inr r), l2, l3] S σ = je X 0 634 [l0, some (.inr r), l2, l3] (.inr r :: S) σ := je_aload (show jm_fe 0 633 = some (jk_aload 1 1) from rfl) rfl
set_option maxRecDepth 20000 in
theorem r_law_law_634 : je X 0 634 [some (.inr r), l1, l2, l3] S σ = je X 0 635 [some (.inr r), l1, l2, l3] (.inr r :: S) σ := je_aload (show jm_fe 0 634 = some (jk_aload 0 1) from rfl) rfl
set_option maxRecDepth 20000 in
theorem r_law_law_635 : je X 0 635 [l0, l1, l2, some (.inl x)] S σ = je X 0 636 [l0, l1, l2, some (.inl x)] (.inl x :: S) σ := je_iload (show jm_fe 0 635 = some (jk_iload 3 1) from rfl) rfl
set_option maxRecDepth 20000 in
theorem r_law_law_636 : je X 0 636 L S σ = je X 0 637 L (.inl 1 :: S) σ := je_const (show jm_fe 0 636 = some (jk_const 1 1) from rfl)
set_option maxRecDepth 20000 in
theorem r_law_law_637 : je X 0 637 L (.inl q :: .inl p :: S) σ = je X 0 638 L (.inl (p + q) :: S) σ := je_bin (show jm_fe 0 637 = some (jb_iadd) from rfl)
set_option maxRecDepth 20000 in
theorem r_law_law_638 (hi : jm_in p X.1 = true) : je X 0 638 L (.inl p :: .inr (.inr u) :: S) σ = je X 0 639 L (.inl (X.2 p.toNatClampNeg) :: S) σ := je_sld (show jm_fe 0 638 = some (jk_sld) from rfl) hi
set_option maxRecDepth 20000 in
theorem r_law_law_639 (hc : jm_cl σ.1 a = some 0) (h8 : S.length ≤ 8) : je X 0 639 L (v0 :: .inr (.inl (some a)) :: S) σ = je_c X 0 642 L S (je X 17 0 [some (.inr (.inl (some a))), some v0] [] σ) := je_callV (as := [v0]) (S' := S) (show jm_fe 0 639 = some (jk_callV 17 1 0) from rfl) rfl hc h8
set_option maxRecDepth 20000 in
theorem r_law_law_642 : je X 0 642 [l0, l1, some (.inr r), l3] S σ = je X 0 643 [l0, l1, some (.inr r), l3] (.inr r :: S) σ := je_aload (show jm_fe 0 642 = some (jk_aload 2 1) from rfl) rfl
set_option maxRecDepth 20000 in
theorem r_law_law_643 : je X 0 643 [some (.inr r), l1, l2, l3] S σ = je X 0 644 [some (.inr r), l1, l2, l3] (.inr r :: S) σ := je_aload (show jm_fe 0 643 = some (jk_aload 0 1) from rfl) rfl
set_option maxRecDepth 20000 in
theorem r_law_law_644 : je X 0 644 [l0, l1, l2, some (.inl x)] S σ = je X 0 645 [l0, l1, l2, some (.inl x)] (.inl x :: S) σ := je_iload (show jm_fe 0 644 = some (jk_iload 3 1) from rfl) rfl
set_option maxRecDepth 20000 in
theorem r_law_law_645 : je X 0 645 L S σ = je X 0 646 L (.inl 1 :: S) σ := je_const (show jm_fe 0 645 = some (jk_const 1 1) from rfl)
set_option maxRecDepth 20000 in
theorem r_law_law_646 : je X 0 646 L (.inl q :: .inl p :: S) σ = je X 0 647 L (.inl (p + q) :: S) σ := je_bin (show jm_fe 0 646 = some (jb_iadd) from rfl)
set_option maxRecDepth 20000 in
theorem r_law_law_647 (hi : jm_in p X.1 = true) : je X 0 647 L (.inl p :: .inr (.inr u) :: S) σ = je X 0 648 L (.inl (X.2 p.toNatClampNeg) :: S) σ := je_sld (show jm_fe 0 647 = some (jk_sld) from rfl) hi
set_option maxRecDepth 20000 in
theorem r_law_law_648 (hc : jm_cl σ.1 a = some 9) (h8 : S.length ≤ 8) : je X 0 648 L (v0 :: .inr (.inl (some a)) :: S) σ = je_c X 0 651 L S (je X 63 0 [some (.inr (.inl (some a))), some v0] [] σ) := je_callV (as := [v0]) (S' := S) (show jm_fe 0 648 = some (jk_callV 63 1 9) from rfl) rfl hc h8
set_option maxRecDepth 20000 in
theorem r_law_law_651 : je X 0 651 L (.inl q :: .inl p :: S) σ = if p = q then je X 0 656 L S σ else je X 0 654 L S σ := je_icmp_eq (show jm_fe 0 651 = some (jk_icmp .eq 656) from rfl)
set_option maxRecDepth 20000 in
theorem r_law_law_654 : je X 0 654 L S σ = je X 0 655 L (.inl 0 :: S) σ := je_const (show jm_fe 0 654 = some (jk_const 0 1) from rfl)
set_option maxRecDepth 20000 in
theorem r_law_law_655 (hx : p = 0 ∨ p = 1) : je X 0 655 L [.inl p] σ = some (some (.inl p), σ) := je_zret (show jm_fe 0 655 = some (jk_zret) from rfl) hx
set_option maxRecDepth 20000 in
theorem r_law_law_656 : je X 0 656 [l0, l1, l2, some (.inl x)] S σ = je X 0 659 [l0, l1, l2, some (.inl (x + (5)))] S σ := je_iinc (show jm_fe 0 656 = some (jk_iinc 3 (5)) from rfl) rfl
set_option maxRecDepth 20000 in
theorem r_law_law_659 : je X 0 659 L S σ = je X 0 18 L S σ := je_goto (show jm_fe 0 659 = some (jk_goto 18) from rfl)
set_option maxRecDepth 20000 in
theorem r_law_law_662 : je X 0 662 L S σ = je X 0 663 L (.inl 1 :: S) σ := je_const (show jm_fe 0 662 = some (jk_const 1 1) from rfl)
set_option maxRecDepth 20000 in
theorem r_law_law_663 (hx : p = 0 ∨ p = 1) : je X 0 663 L [.inl p] σ = some (some (.inl p), σ) := je_zret (show jm_fe 0 663 = some (jk_zret) from rfl) hx
theorem r_S_function_0 : je X 2 0 [some (.inr r), l1, l2, l3, l4] S σ = je X 2 1 [some (.inr r), l1, l2, l3, l4] (.inr r :: S) σ := je_aload (show jm_fe 2 0 = some (jk_aload 0 1) from rfl) rfl
theorem r_S_function_1 : je X 2 1 L (.inr (.inl (some a)) :: S) σ = je_v X 2 4 L S σ (jm_gf σ.1 a 0 0) := je_getf (show jm_fe 2 1 = some (jk_getf 0 0) from rfl)
theorem r_S_function_4 : je X 2 4 [l0, some (.inl x), l2, l3, l4] S σ = je X 2 5 [l0, some (.inl x), l2, l3, l4] (.inl x :: S) σ := je_iload (show jm_fe 2 4 = some (jk_iload 1 1) from rfl) rfl
theorem r_S_function_5 : je X 2 5 [l0, l1, some (.inl x), l3, l4] S σ = je X 2 6 [l0, l1, some (.inl x), l3, l4] (.inl x :: S) σ := je_iload (show jm_fe 2 5 = some (jk_iload 2 1) from rfl) rfl
theorem r_S_function_6 : je X 2 6 [l0, l1, l2, some (.inl x), l4] S σ = je X 2 7 [l0, l1, l2, some (.inl x), l4] (.inl x :: S) σ := je_iload (show jm_fe 2 6 = some (jk_iload 3 1) from rfl) rfl
theorem r_S_function_7 (hc : jm_cl σ.1 a = some 1) (h8 : S.length ≤ 8) : je X 2 7 L (v2 :: v1 :: v0 :: .inr (.inl (some a)) :: S) σ = je_c X 2 10 L S (je X 103 0 [some (.inr (.inl (some a))), some v0, some v1, some v2] [] σ) := je_callV (as := [v0, v1, v2]) (S' := S) (show jm_fe 2 7 = some (jk_callV 103 3 1) from rfl) rfl hc h8
theorem r_S_function_10 : je X 2 10 [l0, l1, l2, l3, l4] (.inl x :: S) σ = je X 2 12 [l0, l1, l2, l3, some (.inl x)] S σ := je_istore (show jm_fe 2 10 = some (jk_istore 4 2) from rfl) (Nat.le_of_ble_eq_true rfl)
theorem r_S_function_12 : je X 2 12 [l0, l1, l2, l3, some (.inl x)] S σ = je X 2 14 [l0, l1, l2, l3, some (.inl x)] (.inl x :: S) σ := je_iload (show jm_fe 2 12 = some (jk_iload 4 2) from rfl) rfl
theorem r_S_function_14 : je X 2 14 L S σ = je X 2 15 L (.inl (-1) :: S) σ := je_const (show jm_fe 2 14 = some (jk_const (-1) 1) from rfl)
theorem r_S_function_15 : je X 2 15 L (.inl q :: .inl p :: S) σ = if p = q then je X 2 25 L S σ else je X 2 18 L S σ := je_icmp_eq (show jm_fe 2 15 = some (jk_icmp .eq 25) from rfl)
theorem r_S_function_18 : je X 2 18 [some (.inr r), l1, l2, l3, l4] S σ = je X 2 19 [some (.inr r), l1, l2, l3, l4] (.inr r :: S) σ := je_aload (show jm_fe 2 18 = some (jk_aload 0 1) from rfl) rfl
theorem r_S_function_19 : je X 2 19 L (.inr (.inl (some a)) :: S) σ = je_v X 2 22 L S σ (jm_gf σ.1 a 0 2) := je_getf (show jm_fe 2 19 = some (jk_getf 0 2) from rfl)
theorem r_S_function_22 (hc : jm_cl σ.1 a = some 4) (h8 : S.length ≤ 8) : je X 2 22 L (.inr (.inl (some a)) :: S) σ = je_c X 2 25 L S (je X 113 0 [some (.inr (.inl (some a)))] [] σ) := je_callV (as := []) (S' := S) (show jm_fe 2 22 = some (jk_callV 113 0 4) from rfl) rfl hc h8
theorem r_S_function_25 : je X 2 25 [l0, l1, l2, l3, some (.inl x)] S σ = je X 2 27 [l0, l1, l2, l3, some (.inl x)] (.inl x :: S) σ := je_iload (show jm_fe 2 25 = some (jk_iload 4 2) from rfl) rfl
theorem r_S_function_27 : je X 2 27 L [.inl p] σ = some (some (.inl p), σ) := je_iret (show jm_fe 2 27 = some (jk_iret) from rfl)
theorem r_S_add_0 : je X 3 0 [some (.inr r), l1, l2, l3, l4, l5] S σ = je X 3 1 [some (.inr r), l1, l2, l3, l4, l5] (.inr r :: S) σ := je_aload (show jm_fe 3 0 = some (jk_aload 0 1) from rfl) rfl
theorem r_S_add_1 : je X 3 1 L (.inr (.inl (some a)) :: S) σ = je_v X 3 4 L S σ (jm_gf σ.1 a 0 0) := je_getf (show jm_fe 3 1 = some (jk_getf 0 0) from rfl)
theorem r_S_add_4 : je X 3 4 [l0, some (.inl x), l2, l3, l4, l5] S σ = je X 3 5 [l0, some (.inl x), l2, l3, l4, l5] (.inl x :: S) σ := je_iload (show jm_fe 3 4 = some (jk_iload 1 1) from rfl) rfl
theorem r_S_add_5 (hc : jm_cl σ.1 a = some 1) (h8 : S.length ≤ 8) : je X 3 5 L (v0 :: .inr (.inl (some a)) :: S) σ = je_c X 3 8 L S (je X 104 0 [some (.inr (.inl (some a))), some v0] [] σ) := je_callV (as := [v0]) (S' := S) (show jm_fe 3 5 = some (jk_callV 104 1 1) from rfl) rfl hc h8
theorem r_S_add_8 : je X 3 8 [l0, l1, l2, l3, l4, l5] (.inr r :: S) σ = je X 3 10 [l0, l1, l2, l3, some (.inr r), l5] S σ := je_astore (show jm_fe 3 8 = some (jk_astore 4 2) from rfl) (Nat.le_of_ble_eq_true rfl)
theorem r_S_add_10 : je X 3 10 [l0, l1, l2, l3, some (.inr r), l5] S σ = je X 3 12 [l0, l1, l2, l3, some (.inr r), l5] (.inr r :: S) σ := je_aload (show jm_fe 3 10 = some (jk_aload 4 2) from rfl) rfl
theorem r_S_add_12 : je X 3 12 L (.inr (.inl o) :: S) σ = if o = none then je X 3 15 L S σ else je X 3 17 L S σ := je_ifnonnull (show jm_fe 3 12 = some (jk_ifnonnull 17) from rfl)
theorem r_S_add_15 : je X 3 15 L S σ = je X 3 16 L (.inl (-1) :: S) σ := je_const (show jm_fe 3 15 = some (jk_const (-1) 1) from rfl)
theorem r_S_add_16 : je X 3 16 L [.inl p] σ = some (some (.inl p), σ) := je_iret (show jm_fe 3 16 = some (jk_iret) from rfl)
theorem r_S_add_17 : je X 3 17 [l0, l1, l2, l3, some (.inr r), l5] S σ = je X 3 19 [l0, l1, l2, l3, some (.inr r), l5] (.inr r :: S) σ := je_aload (show jm_fe 3 17 = some (jk_aload 4 2) from rfl) rfl
theorem r_S_add_19 : je X 3 19 [l0, l1, some (.inl x), l3, l4, l5] S σ = je X 3 20 [l0, l1, some (.inl x), l3, l4, l5] (.inl x :: S) σ := je_iload (show jm_fe 3 19 = some (jk_iload 2 1) from rfl) rfl
theorem r_S_add_20 : je X 3 20 [l0, l1, l2, some (.inl x), l4, l5] S σ = je X 3 21 [l0, l1, l2, some (.inl x), l4, l5] (.inl x :: S) σ := je_iload (show jm_fe 3 20 = some (jk_iload 3 1) from rfl) rfl
theorem r_S_add_21 (hc : jm_cl σ.1 a = some 2) (h8 : S.length ≤ 8) : je X 3 21 L (v1 :: v0 :: .inr (.inl (some a)) :: S) σ = je_c X 3 24 L S (je X 90 0 [some (.inr (.inl (some a))), some v0, some v1] [] σ) := je_callV (as := [v0, v1]) (S' := S) (show jm_fe 3 21 = some (jk_callV 90 2 2) from rfl) rfl hc h8
theorem r_S_add_24 : je X 3 24 [l0, l1, l2, l3, l4, l5] (.inl x :: S) σ = je X 3 26 [l0, l1, l2, l3, l4, some (.inl x)] S σ := je_istore (show jm_fe 3 24 = some (jk_istore 5 2) from rfl) (Nat.le_of_ble_eq_true rfl)
theorem r_S_add_26 : je X 3 26 [l0, l1, l2, l3, l4, some (.inl x)] S σ = je X 3 28 [l0, l1, l2, l3, l4, some (.inl x)] (.inl x :: S) σ := je_iload (show jm_fe 3 26 = some (jk_iload 5 2) from rfl) rfl
theorem r_S_add_28 : je X 3 28 L S σ = je X 3 29 L (.inl (-1) :: S) σ := je_const (show jm_fe 3 28 = some (jk_const (-1) 1) from rfl)
theorem r_S_add_29 : je X 3 29 L (.inl q :: .inl p :: S) σ = if p = q then je X 3 39 L S σ else je X 3 32 L S σ := je_icmp_eq (show jm_fe 3 29 = some (jk_icmp .eq 39) from rfl)
theorem r_S_add_32 : je X 3 32 [some (.inr r), l1, l2, l3, l4, l5] S σ = je X 3 33 [some (.inr r), l1, l2, l3, l4, l5] (.inr r :: S) σ := je_aload (show jm_fe 3 32 = some (jk_aload 0 1) from rfl) rfl
theorem r_S_add_33 : je X 3 33 L (.inr (.inl (some a)) :: S) σ = je_v X 3 36 L S σ (jm_gf σ.1 a 0 2) := je_getf (show jm_fe 3 33 = some (jk_getf 0 2) from rfl)
theorem r_S_add_36 (hc : jm_cl σ.1 a = some 4) (h8 : S.length ≤ 8) : je X 3 36 L (.inr (.inl (some a)) :: S) σ = je_c X 3 39 L S (je X 113 0 [some (.inr (.inl (some a)))] [] σ) := je_callV (as := []) (S' := S) (show jm_fe 3 36 = some (jk_callV 113 0 4) from rfl) rfl hc h8
theorem r_S_add_39 : je X 3 39 [l0, l1, l2, l3, l4, some (.inl x)] S σ = je X 3 41 [l0, l1, l2, l3, l4, some (.inl x)] (.inl x :: S) σ := je_iload (show jm_fe 3 39 = some (jk_iload 5 2) from rfl) rfl
theorem r_S_add_41 : je X 3 41 L [.inl p] σ = some (some (.inl p), σ) := je_iret (show jm_fe 3 41 = some (jk_iret) from rfl)
theorem r_S_change_0 : je X 4 0 [some (.inr r), l1, l2, l3, l4, l5] S σ = je X 4 1 [some (.inr r), l1, l2, l3, l4, l5] (.inr r :: S) σ := je_aload (show jm_fe 4 0 = some (jk_aload 0 1) from rfl) rfl
theorem r_S_change_1 : je X 4 1 L (.inr (.inl (some a)) :: S) σ = je_v X 4 4 L S σ (jm_gf σ.1 a 0 0) := je_getf (show jm_fe 4 1 = some (jk_getf 0 0) from rfl)
theorem r_S_change_4 : je X 4 4 [l0, some (.inl x), l2, l3, l4, l5] S σ = je X 4 5 [l0, some (.inl x), l2, l3, l4, l5] (.inl x :: S) σ := je_iload (show jm_fe 4 4 = some (jk_iload 1 1) from rfl) rfl
theorem r_S_change_5 (hc : jm_cl σ.1 a = some 1) (h8 : S.length ≤ 8) : je X 4 5 L (v0 :: .inr (.inl (some a)) :: S) σ = je_c X 4 8 L S (je X 104 0 [some (.inr (.inl (some a))), some v0] [] σ) := je_callV (as := [v0]) (S' := S) (show jm_fe 4 5 = some (jk_callV 104 1 1) from rfl) rfl hc h8
theorem r_S_change_8 : je X 4 8 [l0, l1, l2, l3, l4, l5] (.inr r :: S) σ = je X 4 10 [l0, l1, l2, l3, l4, some (.inr r)] S σ := je_astore (show jm_fe 4 8 = some (jk_astore 5 2) from rfl) (Nat.le_of_ble_eq_true rfl)
theorem r_S_change_10 : je X 4 10 [l0, l1, l2, l3, l4, some (.inr r)] S σ = je X 4 12 [l0, l1, l2, l3, l4, some (.inr r)] (.inr r :: S) σ := je_aload (show jm_fe 4 10 = some (jk_aload 5 2) from rfl) rfl
theorem r_S_change_12 : je X 4 12 L (.inr (.inl o) :: S) σ = if o = none then je X 4 35 L S σ else je X 4 15 L S σ := je_ifnull (show jm_fe 4 12 = some (jk_ifnull 35) from rfl)
theorem r_S_change_15 : je X 4 15 [some (.inr r), l1, l2, l3, l4, l5] S σ = je X 4 16 [some (.inr r), l1, l2, l3, l4, l5] (.inr r :: S) σ := je_aload (show jm_fe 4 15 = some (jk_aload 0 1) from rfl) rfl
theorem r_S_change_16 : je X 4 16 [l0, l1, l2, l3, l4, some (.inr r)] S σ = je X 4 18 [l0, l1, l2, l3, l4, some (.inr r)] (.inr r :: S) σ := je_aload (show jm_fe 4 16 = some (jk_aload 5 2) from rfl) rfl
theorem r_S_change_18 : je X 4 18 [l0, l1, some (.inl x), l3, l4, l5] S σ = je X 4 19 [l0, l1, some (.inl x), l3, l4, l5] (.inl x :: S) σ := je_iload (show jm_fe 4 18 = some (jk_iload 2 1) from rfl) rfl
theorem r_S_change_19 : je X 4 19 [l0, l1, l2, some (.inl x), l4, l5] S σ = je X 4 20 [l0, l1, l2, some (.inl x), l4, l5] (.inl x :: S) σ := je_iload (show jm_fe 4 19 = some (jk_iload 3 1) from rfl) rfl
theorem r_S_change_20 : je X 4 20 [l0, l1, l2, l3, some (.inl x), l5] S σ = je X 4 22 [l0, l1, l2, l3, some (.inl x), l5] (.inl x :: S) σ := je_iload (show jm_fe 4 20 = some (jk_iload 4 2) from rfl) rfl
theorem r_S_change_22 (hc : jm_cl σ.1 a = some 2) (h8 : S.length ≤ 8) : je X 4 22 L (v2 :: v1 :: v0 :: .inr (.inl (some a)) :: S) σ = je_c X 4 25 L S (je X 91 0 [some (.inr (.inl (some a))), some v0, some v1, some v2] [] σ) := je_callV (as := [v0, v1, v2]) (S' := S) (show jm_fe 4 22 = some (jk_callV 91 3 2) from rfl) rfl hc h8
theorem r_S_change_25 (hc : jm_cl σ.1 a = some 0) (h8 : S.length ≤ 8) : je X 4 25 L (v0 :: .inr (.inl (some a)) :: S) σ = je_c X 4 28 L S (je X 18 0 [some (.inr (.inl (some a))), some v0] [] σ) := je_callV (as := [v0]) (S' := S) (show jm_fe 4 25 = some (jk_callV 18 1 0) from rfl) rfl hc h8
theorem r_S_change_28 : je X 4 28 L (.inl p :: S) σ = if p = 0 then je X 4 35 L S σ else je X 4 31 L S σ := je_if_eq (show jm_fe 4 28 = some (jk_if .eq 35) from rfl)
theorem r_S_change_31 : je X 4 31 L S σ = je X 4 32 L (.inl 1 :: S) σ := je_const (show jm_fe 4 31 = some (jk_const 1 1) from rfl)
theorem r_S_change_32 : je X 4 32 L S σ = je X 4 36 L S σ := je_goto (show jm_fe 4 32 = some (jk_goto 36) from rfl)
theorem r_S_change_35 : je X 4 35 L S σ = je X 4 36 L (.inl 0 :: S) σ := je_const (show jm_fe 4 35 = some (jk_const 0 1) from rfl)
theorem r_S_change_36 (hx : p = 0 ∨ p = 1) : je X 4 36 L [.inl p] σ = some (some (.inl p), σ) := je_zret (show jm_fe 4 36 = some (jk_zret) from rfl) hx
theorem r_S_handler_0 : je X 5 0 [some (.inr r), l1, l2, l3, l4, l5] S σ = je X 5 1 [some (.inr r), l1, l2, l3, l4, l5] (.inr r :: S) σ := je_aload (show jm_fe 5 0 = some (jk_aload 0 1) from rfl) rfl
theorem r_S_handler_1 : je X 5 1 L (.inr (.inl (some a)) :: S) σ = je_v X 5 4 L S σ (jm_gf σ.1 a 0 0) := je_getf (show jm_fe 5 1 = some (jk_getf 0 0) from rfl)
theorem r_S_handler_4 : je X 5 4 [l0, some (.inl x), l2, l3, l4, l5] S σ = je X 5 5 [l0, some (.inl x), l2, l3, l4, l5] (.inl x :: S) σ := je_iload (show jm_fe 5 4 = some (jk_iload 1 1) from rfl) rfl
theorem r_S_handler_5 (hc : jm_cl σ.1 a = some 1) (h8 : S.length ≤ 8) : je X 5 5 L (v0 :: .inr (.inl (some a)) :: S) σ = je_c X 5 8 L S (je X 104 0 [some (.inr (.inl (some a))), some v0] [] σ) := je_callV (as := [v0]) (S' := S) (show jm_fe 5 5 = some (jk_callV 104 1 1) from rfl) rfl hc h8
theorem r_S_handler_8 : je X 5 8 [l0, l1, l2, l3, l4, l5] (.inr r :: S) σ = je X 5 10 [l0, l1, l2, l3, l4, some (.inr r)] S σ := je_astore (show jm_fe 5 8 = some (jk_astore 5 2) from rfl) (Nat.le_of_ble_eq_true rfl)
theorem r_S_handler_10 : je X 5 10 [l0, l1, l2, l3, l4, some (.inr r)] S σ = je X 5 12 [l0, l1, l2, l3, l4, some (.inr r)] (.inr r :: S) σ := je_aload (show jm_fe 5 10 = some (jk_aload 5 2) from rfl) rfl
theorem r_S_handler_12 : je X 5 12 L (.inr (.inl o) :: S) σ = if o = none then je X 5 35 L S σ else je X 5 15 L S σ := je_ifnull (show jm_fe 5 12 = some (jk_ifnull 35) from rfl)
theorem r_S_handler_15 : je X 5 15 [some (.inr r), l1, l2, l3, l4, l5] S σ = je X 5 16 [some (.inr r), l1, l2, l3, l4, l5] (.inr r :: S) σ := je_aload (show jm_fe 5 15 = some (jk_aload 0 1) from rfl) rfl
theorem r_S_handler_16 : je X 5 16 [l0, l1, l2, l3, l4, some (.inr r)] S σ = je X 5 18 [l0, l1, l2, l3, l4, some (.inr r)] (.inr r :: S) σ := je_aload (show jm_fe 5 16 = some (jk_aload 5 2) from rfl) rfl
theorem r_S_handler_18 : je X 5 18 [l0, l1, some (.inl x), l3, l4, l5] S σ = je X 5 19 [l0, l1, some (.inl x), l3, l4, l5] (.inl x :: S) σ := je_iload (show jm_fe 5 18 = some (jk_iload 2 1) from rfl) rfl
theorem r_S_handler_19 : je X 5 19 [l0, l1, l2, some (.inl x), l4, l5] S σ = je X 5 20 [l0, l1, l2, some (.inl x), l4, l5] (.inl x :: S) σ := je_iload (show jm_fe 5 19 = some (jk_iload 3 1) from rfl) rfl
theorem r_S_handler_20 : je X 5 20 [l0, l1, l2, l3, some (.inl x), l5] S σ = je X 5 22 [l0, l1, l2, l3, some (.inl x), l5] (.inl x :: S) σ := je_iload (show jm_fe 5 20 = some (jk_iload 4 2) from rfl) rfl
theorem r_S_handler_22 (hc : jm_cl σ.1 a = some 2) (h8 : S.length ≤ 8) : je X 5 22 L (v2 :: v1 :: v0 :: .inr (.inl (some a)) :: S) σ = je_c X 5 25 L S (je X 92 0 [some (.inr (.inl (some a))), some v0, some v1, some v2] [] σ) := je_callV (as := [v0, v1, v2]) (S' := S) (show jm_fe 5 22 = some (jk_callV 92 3 2) from rfl) rfl hc h8
theorem r_S_handler_25 (hc : jm_cl σ.1 a = some 0) (h8 : S.length ≤ 8) : je X 5 25 L (v0 :: .inr (.inl (some a)) :: S) σ = je_c X 5 28 L S (je X 18 0 [some (.inr (.inl (some a))), some v0] [] σ) := je_callV (as := [v0]) (S' := S) (show jm_fe 5 25 = some (jk_callV 18 1 0) from rfl) rfl hc h8
theorem r_S_handler_28 : je X 5 28 L (.inl p :: S) σ = if p = 0 then je X 5 35 L S σ else je X 5 31 L S σ := je_if_eq (show jm_fe 5 28 = some (jk_if .eq 35) from rfl)
theorem r_S_handler_31 : je X 5 31 L S σ = je X 5 32 L (.inl 1 :: S) σ := je_const (show jm_fe 5 31 = some (jk_const 1 1) from rfl)
theorem r_S_handler_32 : je X 5 32 L S σ = je X 5 36 L S σ := je_goto (show jm_fe 5 32 = some (jk_goto 36) from rfl)
theorem r_S_handler_35 : je X 5 35 L S σ = je X 5 36 L (.inl 0 :: S) σ := je_const (show jm_fe 5 35 = some (jk_const 0 1) from rfl)
theorem r_S_handler_36 (hx : p = 0 ∨ p = 1) : je X 5 36 L [.inl p] σ = some (some (.inl p), σ) := je_zret (show jm_fe 5 36 = some (jk_zret) from rfl) hx
theorem r_S_only_0 : je X 6 0 [some (.inr r), l1, l2, l3] S σ = je X 6 1 [some (.inr r), l1, l2, l3] (.inr r :: S) σ := je_aload (show jm_fe 6 0 = some (jk_aload 0 1) from rfl) rfl
theorem r_S_only_1 : je X 6 1 L (.inr (.inl (some a)) :: S) σ = je_v X 6 4 L S σ (jm_gf σ.1 a 0 0) := je_getf (show jm_fe 6 1 = some (jk_getf 0 0) from rfl)
theorem r_S_only_4 : je X 6 4 [l0, some (.inl x), l2, l3] S σ = je X 6 5 [l0, some (.inl x), l2, l3] (.inl x :: S) σ := je_iload (show jm_fe 6 4 = some (jk_iload 1 1) from rfl) rfl
theorem r_S_only_5 (hc : jm_cl σ.1 a = some 1) (h8 : S.length ≤ 8) : je X 6 5 L (v0 :: .inr (.inl (some a)) :: S) σ = je_c X 6 8 L S (je X 104 0 [some (.inr (.inl (some a))), some v0] [] σ) := je_callV (as := [v0]) (S' := S) (show jm_fe 6 5 = some (jk_callV 104 1 1) from rfl) rfl hc h8
theorem r_S_only_8 : je X 6 8 [l0, l1, l2, l3] (.inr r :: S) σ = je X 6 9 [l0, l1, l2, some (.inr r)] S σ := je_astore (show jm_fe 6 8 = some (jk_astore 3 1) from rfl) (Nat.le_of_ble_eq_true rfl)
theorem r_S_only_9 : je X 6 9 [l0, l1, l2, some (.inr r)] S σ = je X 6 10 [l0, l1, l2, some (.inr r)] (.inr r :: S) σ := je_aload (show jm_fe 6 9 = some (jk_aload 3 1) from rfl) rfl
theorem r_S_only_10 : je X 6 10 L (.inr (.inl o) :: S) σ = if o = none then je X 6 29 L S σ else je X 6 13 L S σ := je_ifnull (show jm_fe 6 10 = some (jk_ifnull 29) from rfl)
theorem r_S_only_13 : je X 6 13 [some (.inr r), l1, l2, l3] S σ = je X 6 14 [some (.inr r), l1, l2, l3] (.inr r :: S) σ := je_aload (show jm_fe 6 13 = some (jk_aload 0 1) from rfl) rfl
theorem r_S_only_14 : je X 6 14 [l0, l1, l2, some (.inr r)] S σ = je X 6 15 [l0, l1, l2, some (.inr r)] (.inr r :: S) σ := je_aload (show jm_fe 6 14 = some (jk_aload 3 1) from rfl) rfl
theorem r_S_only_15 : je X 6 15 [l0, l1, some (.inl x), l3] S σ = je X 6 16 [l0, l1, some (.inl x), l3] (.inl x :: S) σ := je_iload (show jm_fe 6 15 = some (jk_iload 2 1) from rfl) rfl
theorem r_S_only_16 (hc : jm_cl σ.1 a = some 2) (h8 : S.length ≤ 8) : je X 6 16 L (v0 :: .inr (.inl (some a)) :: S) σ = je_c X 6 19 L S (je X 93 0 [some (.inr (.inl (some a))), some v0] [] σ) := je_callV (as := [v0]) (S' := S) (show jm_fe 6 16 = some (jk_callV 93 1 2) from rfl) rfl hc h8
theorem r_S_only_19 (hc : jm_cl σ.1 a = some 0) (h8 : S.length ≤ 8) : je X 6 19 L (v0 :: .inr (.inl (some a)) :: S) σ = je_c X 6 22 L S (je X 18 0 [some (.inr (.inl (some a))), some v0] [] σ) := je_callV (as := [v0]) (S' := S) (show jm_fe 6 19 = some (jk_callV 18 1 0) from rfl) rfl hc h8
theorem r_S_only_22 : je X 6 22 L (.inl p :: S) σ = if p = 0 then je X 6 29 L S σ else je X 6 25 L S σ := je_if_eq (show jm_fe 6 22 = some (jk_if .eq 29) from rfl)
theorem r_S_only_25 : je X 6 25 L S σ = je X 6 26 L (.inl 1 :: S) σ := je_const (show jm_fe 6 25 = some (jk_const 1 1) from rfl)
theorem r_S_only_26 : je X 6 26 L S σ = je X 6 30 L S σ := je_goto (show jm_fe 6 26 = some (jk_goto 30) from rfl)
theorem r_S_only_29 : je X 6 29 L S σ = je X 6 30 L (.inl 0 :: S) σ := je_const (show jm_fe 6 29 = some (jk_const 0 1) from rfl)
theorem r_S_only_30 (hx : p = 0 ∨ p = 1) : je X 6 30 L [.inl p] σ = some (some (.inl p), σ) := je_zret (show jm_fe 6 30 = some (jk_zret) from rfl) hx
theorem r_S_clear_0 : je X 7 0 [some (.inr r)] S σ = je X 7 1 [some (.inr r)] (.inr r :: S) σ := je_aload (show jm_fe 7 0 = some (jk_aload 0 1) from rfl) rfl
theorem r_S_clear_1 : je X 7 1 L (.inr (.inl (some a)) :: S) σ = je_v X 7 4 L S σ (jm_gf σ.1 a 0 0) := je_getf (show jm_fe 7 1 = some (jk_getf 0 0) from rfl)
theorem r_S_clear_4 (hc : jm_cl σ.1 a = some 1) (h8 : S.length ≤ 8) : je X 7 4 L (.inr (.inl (some a)) :: S) σ = je_c X 7 7 L S (je X 102 0 [some (.inr (.inl (some a)))] [] σ) := je_callV (as := []) (S' := S) (show jm_fe 7 4 = some (jk_callV 102 0 1) from rfl) rfl hc h8
theorem r_S_clear_7 : je X 7 7 [some (.inr r)] S σ = je X 7 8 [some (.inr r)] (.inr r :: S) σ := je_aload (show jm_fe 7 7 = some (jk_aload 0 1) from rfl) rfl
theorem r_S_clear_8 : je X 7 8 L (.inr (.inl (some a)) :: S) σ = je_v X 7 11 L S σ (jm_gf σ.1 a 0 2) := je_getf (show jm_fe 7 8 = some (jk_getf 0 2) from rfl)
theorem r_S_clear_11 (hc : jm_cl σ.1 a = some 4) (h8 : S.length ≤ 8) : je X 7 11 L (.inr (.inl (some a)) :: S) σ = je_c X 7 14 L S (je X 113 0 [some (.inr (.inl (some a)))] [] σ) := je_callV (as := []) (S' := S) (show jm_fe 7 11 = some (jk_callV 113 0 4) from rfl) rfl hc h8
theorem r_S_clear_14 : je X 7 14 L [] σ = some (none, σ) := je_ret (show jm_fe 7 14 = some (jk_ret) from rfl)
theorem r_S_answer_0 : je X 8 0 [some (.inr r), l1] S σ = je X 8 1 [some (.inr r), l1] (.inr r :: S) σ := je_aload (show jm_fe 8 0 = some (jk_aload 0 1) from rfl) rfl
theorem r_S_answer_1 : je X 8 1 L (.inr (.inl (some a)) :: S) σ = je_v X 8 4 L S σ (jm_gf σ.1 a 0 1) := je_getf (show jm_fe 8 1 = some (jk_getf 0 1) from rfl)
theorem r_S_answer_4 : je X 8 4 [l0, some (.inl x)] S σ = je X 8 5 [l0, some (.inl x)] (.inl x :: S) σ := je_iload (show jm_fe 8 4 = some (jk_iload 1 1) from rfl) rfl
theorem r_S_answer_5 (hc : jm_cl σ.1 a = some 3) (h8 : S.length ≤ 8) : je X 8 5 L (v0 :: .inr (.inl (some a)) :: S) σ = je_c X 8 8 L S (je X 66 0 [some (.inr (.inl (some a))), some v0] [] σ) := je_callV (as := [v0]) (S' := S) (show jm_fe 8 5 = some (jk_callV 66 1 3) from rfl) rfl hc h8
theorem r_S_answer_8 : je X 8 8 L [.inl p] σ = some (some (.inl p), σ) := je_iret (show jm_fe 8 8 = some (jk_iret) from rfl)
theorem r_S_forget_0 : je X 9 0 [some (.inr r)] S σ = je X 9 1 [some (.inr r)] (.inr r :: S) σ := je_aload (show jm_fe 9 0 = some (jk_aload 0 1) from rfl) rfl
theorem r_S_forget_1 : je X 9 1 L (.inr (.inl (some a)) :: S) σ = je_v X 9 4 L S σ (jm_gf σ.1 a 0 1) := je_getf (show jm_fe 9 1 = some (jk_getf 0 1) from rfl)
theorem r_S_forget_4 (hc : jm_cl σ.1 a = some 3) (h8 : S.length ≤ 8) : je X 9 4 L (.inr (.inl (some a)) :: S) σ = je_c X 9 7 L S (je X 65 0 [some (.inr (.inl (some a)))] [] σ) := je_callV (as := []) (S' := S) (show jm_fe 9 4 = some (jk_callV 65 0 3) from rfl) rfl hc h8
theorem r_S_forget_7 : je X 9 7 L [] σ = some (none, σ) := je_ret (show jm_fe 9 7 = some (jk_ret) from rfl)
theorem r_S_begin_0 : je X 10 0 [some (.inr r)] S σ = je X 10 1 [some (.inr r)] (.inr r :: S) σ := je_aload (show jm_fe 10 0 = some (jk_aload 0 1) from rfl) rfl
theorem r_S_begin_1 : je X 10 1 L (.inr (.inl (some a)) :: S) σ = je_v X 10 4 L S σ (jm_gf σ.1 a 0 2) := je_getf (show jm_fe 10 1 = some (jk_getf 0 2) from rfl)
theorem r_S_begin_4 (hc : jm_cl σ.1 a = some 4) (h8 : S.length ≤ 8) : je X 10 4 L (.inr (.inl (some a)) :: S) σ = je_c X 10 7 L S (je X 114 0 [some (.inr (.inl (some a)))] [] σ) := je_callV (as := []) (S' := S) (show jm_fe 10 4 = some (jk_callV 114 0 4) from rfl) rfl hc h8
theorem r_S_begin_7 : je X 10 7 L [] σ = some (none, σ) := je_ret (show jm_fe 10 7 = some (jk_ret) from rfl)
theorem r_S_go_0 : je X 11 0 [l0, some (.inl x), l2] S σ = je X 11 1 [l0, some (.inl x), l2] (.inl x :: S) σ := je_iload (show jm_fe 11 0 = some (jk_iload 1 1) from rfl) rfl
theorem r_S_go_1 : je X 11 1 L S σ = je X 11 2 L (.inl 1 :: S) σ := je_const (show jm_fe 11 1 = some (jk_const 1 1) from rfl)
theorem r_S_go_2 : je X 11 2 L (.inl q :: .inl p :: S) σ = if p < q then je X 11 22 L S σ else je X 11 5 L S σ := je_icmp_lt (show jm_fe 11 2 = some (jk_icmp .lt 22) from rfl)
theorem r_S_go_5 : je X 11 5 [l0, some (.inl x), l2] S σ = je X 11 6 [l0, some (.inl x), l2] (.inl x :: S) σ := je_iload (show jm_fe 11 5 = some (jk_iload 1 1) from rfl) rfl
theorem r_S_go_6 : je X 11 6 L S σ = je X 11 9 L (.inl 5000 :: S) σ := je_const (show jm_fe 11 6 = some (jk_const (5000) 3) from rfl)
theorem r_S_go_9 : je X 11 9 L (.inl q :: .inl p :: S) σ = if q < p then je X 11 22 L S σ else je X 11 12 L S σ := je_icmp_gt (show jm_fe 11 9 = some (jk_icmp .gt 22) from rfl)
theorem r_S_go_12 : je X 11 12 [some (.inr r), l1, l2] S σ = je X 11 13 [some (.inr r), l1, l2] (.inr r :: S) σ := je_aload (show jm_fe 11 12 = some (jk_aload 0 1) from rfl) rfl
theorem r_S_go_13 : je X 11 13 L (.inr (.inl (some a)) :: S) σ = je_v X 11 16 L S σ (jm_gf σ.1 a 0 2) := je_getf (show jm_fe 11 13 = some (jk_getf 0 2) from rfl)
theorem r_S_go_16 : je X 11 16 L (.inr (.inl (some a)) :: S) σ = je_v X 11 19 L S σ (jm_gf σ.1 a 4 5) := je_getf (show jm_fe 11 16 = some (jk_getf 4 5) from rfl)
theorem r_S_go_19 : je X 11 19 L (.inl p :: S) σ = if p = 0 then je X 11 22 L S σ else je X 11 24 L S σ := je_if_ne (show jm_fe 11 19 = some (jk_if .ne 24) from rfl)
theorem r_S_go_22 : je X 11 22 L S σ = je X 11 23 L (.inl (-1) :: S) σ := je_const (show jm_fe 11 22 = some (jk_const (-1) 1) from rfl)
theorem r_S_go_23 : je X 11 23 L [.inl p] σ = some (some (.inl p), σ) := je_iret (show jm_fe 11 23 = some (jk_iret) from rfl)
theorem r_S_go_24 : je X 11 24 L S σ = je X 11 25 L (.inl 0 :: S) σ := je_const (show jm_fe 11 24 = some (jk_const 0 1) from rfl)
theorem r_S_go_25 : je X 11 25 [l0, l1, l2] (.inl x :: S) σ = je X 11 26 [l0, l1, some (.inl x)] S σ := je_istore (show jm_fe 11 25 = some (jk_istore 2 1) from rfl) (Nat.le_of_ble_eq_true rfl)
theorem r_S_go_26 : je X 11 26 [l0, l1, some (.inl x)] S σ = je X 11 27 [l0, l1, some (.inl x)] (.inl x :: S) σ := je_iload (show jm_fe 11 26 = some (jk_iload 2 1) from rfl) rfl
theorem r_S_go_27 : je X 11 27 [l0, some (.inl x), l2] S σ = je X 11 28 [l0, some (.inl x), l2] (.inl x :: S) σ := je_iload (show jm_fe 11 27 = some (jk_iload 1 1) from rfl) rfl
theorem r_S_go_28 : je X 11 28 L (.inl q :: .inl p :: S) σ = if q ≤ p then je X 11 54 L S σ else je X 11 31 L S σ := je_icmp_ge (show jm_fe 11 28 = some (jk_icmp .ge 54) from rfl)
theorem r_S_go_31 : je X 11 31 [some (.inr r), l1, l2] S σ = je X 11 32 [some (.inr r), l1, l2] (.inr r :: S) σ := je_aload (show jm_fe 11 31 = some (jk_aload 0 1) from rfl) rfl
theorem r_S_go_32 : je X 11 32 L (.inr (.inl (some a)) :: S) σ = je_v X 11 35 L S σ (jm_gf σ.1 a 0 2) := je_getf (show jm_fe 11 32 = some (jk_getf 0 2) from rfl)
theorem r_S_go_35 : je X 11 35 L (.inr (.inl (some a)) :: S) σ = je_v X 11 38 L S σ (jm_gf σ.1 a 4 6) := je_getf (show jm_fe 11 35 = some (jk_getf 4 6) from rfl)
theorem r_S_go_38 : je X 11 38 L (.inl p :: S) σ = if p ≤ 0 then je X 11 54 L S σ else je X 11 41 L S σ := je_if_le (show jm_fe 11 38 = some (jk_if .le 54) from rfl)
theorem r_S_go_41 : je X 11 41 [some (.inr r), l1, l2] S σ = je X 11 42 [some (.inr r), l1, l2] (.inr r :: S) σ := je_aload (show jm_fe 11 41 = some (jk_aload 0 1) from rfl) rfl
theorem r_S_go_42 : je X 11 42 L (.inr (.inl (some a)) :: S) σ = je_v X 11 45 L S σ (jm_gf σ.1 a 0 2) := je_getf (show jm_fe 11 42 = some (jk_getf 0 2) from rfl)
theorem r_S_go_45 (hc : jm_cl σ.1 a = some 4) (h8 : S.length ≤ 8) : je X 11 45 L (.inr (.inl (some a)) :: S) σ = je_c X 11 48 L S (je X 118 0 [some (.inr (.inl (some a))), none, none] [] σ) := je_callV (as := []) (S' := S) (show jm_fe 11 45 = some (jk_callV 118 0 4) from rfl) rfl hc h8
theorem r_S_go_48 : je X 11 48 [l0, l1, some (.inl x)] S σ = je X 11 51 [l0, l1, some (.inl (x + (1)))] S σ := je_iinc (show jm_fe 11 48 = some (jk_iinc 2 (1)) from rfl) rfl
theorem r_S_go_51 : je X 11 51 L S σ = je X 11 26 L S σ := je_goto (show jm_fe 11 51 = some (jk_goto 26) from rfl)
theorem r_S_go_54 : je X 11 54 [l0, l1, some (.inl x)] S σ = je X 11 55 [l0, l1, some (.inl x)] (.inl x :: S) σ := je_iload (show jm_fe 11 54 = some (jk_iload 2 1) from rfl) rfl
theorem r_S_go_55 : je X 11 55 L [.inl p] σ = some (some (.inl p), σ) := je_iret (show jm_fe 11 55 = some (jk_iret) from rfl)
theorem r_S_frame_0 : je X 12 0 [some (.inr r), l1, l2, l3] S σ = je X 12 1 [some (.inr r), l1, l2, l3] (.inr r :: S) σ := je_aload (show jm_fe 12 0 = some (jk_aload 0 1) from rfl) rfl
theorem r_S_frame_1 : je X 12 1 L (.inr (.inl (some a)) :: S) σ = je_v X 12 4 L S σ (jm_gf σ.1 a 0 2) := je_getf (show jm_fe 12 1 = some (jk_getf 0 2) from rfl)
theorem r_S_frame_4 : je X 12 4 [l0, some (.inl x), l2, l3] S σ = je X 12 5 [l0, some (.inl x), l2, l3] (.inl x :: S) σ := je_iload (show jm_fe 12 4 = some (jk_iload 1 1) from rfl) rfl
theorem r_S_frame_5 (hc : jm_cl σ.1 a = some 4) (h8 : S.length ≤ 8) : je X 12 5 L (v0 :: .inr (.inl (some a)) :: S) σ = je_c X 12 8 L S (je X 115 0 [some (.inr (.inl (some a))), some v0] [] σ) := je_callV (as := [v0]) (S' := S) (show jm_fe 12 5 = some (jk_callV 115 1 4) from rfl) rfl hc h8
theorem r_S_frame_8 : je X 12 8 [l0, l1, l2, l3] (.inr r :: S) σ = je X 12 9 [l0, l1, l2, some (.inr r)] S σ := je_astore (show jm_fe 12 8 = some (jk_astore 3 1) from rfl) (Nat.le_of_ble_eq_true rfl)
theorem r_S_frame_9 : je X 12 9 [l0, l1, l2, some (.inr r)] S σ = je X 12 10 [l0, l1, l2, some (.inr r)] (.inr r :: S) σ := je_aload (show jm_fe 12 9 = some (jk_aload 3 1) from rfl) rfl
theorem r_S_frame_10 : je X 12 10 L (.inr (.inl o) :: S) σ = if o = none then je X 12 13 L S σ else je X 12 15 L S σ := je_ifnonnull (show jm_fe 12 10 = some (jk_ifnonnull 15) from rfl)
theorem r_S_frame_13 : je X 12 13 L S σ = je X 12 14 L (.inl (-1) :: S) σ := je_const (show jm_fe 12 13 = some (jk_const (-1) 1) from rfl)
theorem r_S_frame_14 : je X 12 14 L [.inl p] σ = some (some (.inl p), σ) := je_iret (show jm_fe 12 14 = some (jk_iret) from rfl)
theorem r_S_frame_15 : je X 12 15 [l0, l1, some (.inl x), l3] S σ = je X 12 16 [l0, l1, some (.inl x), l3] (.inl x :: S) σ := je_iload (show jm_fe 12 15 = some (jk_iload 2 1) from rfl) rfl
theorem r_S_frame_16 : je X 12 16 L (.inl p :: S) σ = je X 12 (jm_sw [(0, 44), (1, 49), (2, 54)] 62 p) L S σ := je_sw (show jm_fe 12 16 = some (jk_sw [(0, 44), (1, 49), (2, 54)] 62) from rfl)
theorem r_S_frame_44 : je X 12 44 [l0, l1, l2, some (.inr r)] S σ = je X 12 45 [l0, l1, l2, some (.inr r)] (.inr r :: S) σ := je_aload (show jm_fe 12 44 = some (jk_aload 3 1) from rfl) rfl
theorem r_S_frame_45 : je X 12 45 L (.inr (.inl (some a)) :: S) σ = je_v X 12 48 L S σ (jm_gf σ.1 a 5 2) := je_getf (show jm_fe 12 45 = some (jk_getf 5 2) from rfl)
theorem r_S_frame_48 : je X 12 48 L [.inl p] σ = some (some (.inl p), σ) := je_iret (show jm_fe 12 48 = some (jk_iret) from rfl)
theorem r_S_frame_49 : je X 12 49 [l0, l1, l2, some (.inr r)] S σ = je X 12 50 [l0, l1, l2, some (.inr r)] (.inr r :: S) σ := je_aload (show jm_fe 12 49 = some (jk_aload 3 1) from rfl) rfl
theorem r_S_frame_50 : je X 12 50 L (.inr (.inl (some a)) :: S) σ = je_v X 12 53 L S σ (jm_gf σ.1 a 5 3) := je_getf (show jm_fe 12 50 = some (jk_getf 5 3) from rfl)
theorem r_S_frame_53 : je X 12 53 L [.inl p] σ = some (some (.inl p), σ) := je_iret (show jm_fe 12 53 = some (jk_iret) from rfl)
theorem r_S_frame_54 : je X 12 54 [l0, l1, l2, some (.inr r)] S σ = je X 12 55 [l0, l1, l2, some (.inr r)] (.inr r :: S) σ := je_aload (show jm_fe 12 54 = some (jk_aload 3 1) from rfl) rfl
theorem r_S_frame_55 : je X 12 55 L (.inr (.inl (some a)) :: S) σ = je_v X 12 58 L S σ (jm_gf σ.1 a 5 0) := je_getf (show jm_fe 12 55 = some (jk_getf 5 0) from rfl)
theorem r_S_frame_58 : je X 12 58 L (.inr (.inl (some a)) :: S) σ = je_v X 12 61 L S σ (jm_gf σ.1 a 6 2) := je_getf (show jm_fe 12 58 = some (jk_getf 6 2) from rfl)
theorem r_S_frame_61 : je X 12 61 L [.inl p] σ = some (some (.inl p), σ) := je_iret (show jm_fe 12 61 = some (jk_iret) from rfl)
theorem r_S_frame_62 : je X 12 62 L S σ = je X 12 63 L (.inl (-1) :: S) σ := je_const (show jm_fe 12 62 = some (jk_const (-1) 1) from rfl)
theorem r_S_frame_63 : je X 12 63 L [.inl p] σ = some (some (.inl p), σ) := je_iret (show jm_fe 12 63 = some (jk_iret) from rfl)
theorem r_S_value_0 : je X 13 0 [some (.inr r), l1, l2, l3, l4] S σ = je X 13 1 [some (.inr r), l1, l2, l3, l4] (.inr r :: S) σ := je_aload (show jm_fe 13 0 = some (jk_aload 0 1) from rfl) rfl
theorem r_S_value_1 : je X 13 1 L (.inr (.inl (some a)) :: S) σ = je_v X 13 4 L S σ (jm_gf σ.1 a 0 2) := je_getf (show jm_fe 13 1 = some (jk_getf 0 2) from rfl)
theorem r_S_value_4 : je X 13 4 [l0, some (.inl x), l2, l3, l4] S σ = je X 13 5 [l0, some (.inl x), l2, l3, l4] (.inl x :: S) σ := je_iload (show jm_fe 13 4 = some (jk_iload 1 1) from rfl) rfl
theorem r_S_value_5 (hc : jm_cl σ.1 a = some 4) (h8 : S.length ≤ 8) : je X 13 5 L (v0 :: .inr (.inl (some a)) :: S) σ = je_c X 13 8 L S (je X 115 0 [some (.inr (.inl (some a))), some v0] [] σ) := je_callV (as := [v0]) (S' := S) (show jm_fe 13 5 = some (jk_callV 115 1 4) from rfl) rfl hc h8
theorem r_S_value_8 : je X 13 8 [l0, l1, l2, l3, l4] (.inr r :: S) σ = je X 13 10 [l0, l1, l2, l3, some (.inr r)] S σ := je_astore (show jm_fe 13 8 = some (jk_astore 4 2) from rfl) (Nat.le_of_ble_eq_true rfl)
theorem r_S_value_10 : je X 13 10 [l0, l1, l2, l3, some (.inr r)] S σ = je X 13 12 [l0, l1, l2, l3, some (.inr r)] (.inr r :: S) σ := je_aload (show jm_fe 13 10 = some (jk_aload 4 2) from rfl) rfl
theorem r_S_value_12 : je X 13 12 L (.inr (.inl o) :: S) σ = if o = none then je X 13 15 L S σ else je X 13 19 L S σ := je_ifnonnull (show jm_fe 13 12 = some (jk_ifnonnull 19) from rfl)
theorem r_S_value_15 : je X 13 15 L S σ = je X 13 16 L (.inl 0 :: S) σ := je_const (show jm_fe 13 15 = some (jk_const 0 1) from rfl)
theorem r_S_value_16 : je X 13 16 L S σ = je X 13 29 L S σ := je_goto (show jm_fe 13 16 = some (jk_goto 29) from rfl)
theorem r_S_value_19 : je X 13 19 [l0, l1, l2, l3, some (.inr r)] S σ = je X 13 21 [l0, l1, l2, l3, some (.inr r)] (.inr r :: S) σ := je_aload (show jm_fe 13 19 = some (jk_aload 4 2) from rfl) rfl
theorem r_S_value_21 : je X 13 21 [l0, l1, some (.inl x), l3, l4] S σ = je X 13 22 [l0, l1, some (.inl x), l3, l4] (.inl x :: S) σ := je_iload (show jm_fe 13 21 = some (jk_iload 2 1) from rfl) rfl
theorem r_S_value_22 (hc : jm_cl σ.1 a = some 5) (h8 : S.length ≤ 8) : je X 13 22 L (v0 :: .inr (.inl (some a)) :: S) σ = je_c X 13 25 L S (je X 84 0 [some (.inr (.inl (some a))), some v0] [] σ) := je_callV (as := [v0]) (S' := S) (show jm_fe 13 22 = some (jk_callV 84 1 5) from rfl) rfl hc h8
theorem r_S_value_25 : je X 13 25 [l0, l1, l2, some (.inl x), l4] S σ = je X 13 26 [l0, l1, l2, some (.inl x), l4] (.inl x :: S) σ := je_iload (show jm_fe 13 25 = some (jk_iload 3 1) from rfl) rfl
theorem r_S_value_26 (hc : jm_cl σ.1 a = some 6) (h8 : S.length ≤ 8) : je X 13 26 L (v0 :: .inr (.inl (some a)) :: S) σ = je_c X 13 29 L S (je X 71 0 [some (.inr (.inl (some a))), some v0] [] σ) := je_callV (as := [v0]) (S' := S) (show jm_fe 13 26 = some (jk_callV 71 1 6) from rfl) rfl hc h8
theorem r_S_value_29 : je X 13 29 L [.inl p] σ = some (some (.inl p), σ) := je_iret (show jm_fe 13 29 = some (jk_iret) from rfl)
theorem r_S_kind_0 : je X 14 0 [some (.inr r), l1, l2, l3, l4] S σ = je X 14 1 [some (.inr r), l1, l2, l3, l4] (.inr r :: S) σ := je_aload (show jm_fe 14 0 = some (jk_aload 0 1) from rfl) rfl
theorem r_S_kind_1 : je X 14 1 L (.inr (.inl (some a)) :: S) σ = je_v X 14 4 L S σ (jm_gf σ.1 a 0 2) := je_getf (show jm_fe 14 1 = some (jk_getf 0 2) from rfl)
theorem r_S_kind_4 : je X 14 4 [l0, some (.inl x), l2, l3, l4] S σ = je X 14 5 [l0, some (.inl x), l2, l3, l4] (.inl x :: S) σ := je_iload (show jm_fe 14 4 = some (jk_iload 1 1) from rfl) rfl
theorem r_S_kind_5 (hc : jm_cl σ.1 a = some 4) (h8 : S.length ≤ 8) : je X 14 5 L (v0 :: .inr (.inl (some a)) :: S) σ = je_c X 14 8 L S (je X 115 0 [some (.inr (.inl (some a))), some v0] [] σ) := je_callV (as := [v0]) (S' := S) (show jm_fe 14 5 = some (jk_callV 115 1 4) from rfl) rfl hc h8
theorem r_S_kind_8 : je X 14 8 [l0, l1, l2, l3, l4] (.inr r :: S) σ = je X 14 10 [l0, l1, l2, l3, some (.inr r)] S σ := je_astore (show jm_fe 14 8 = some (jk_astore 4 2) from rfl) (Nat.le_of_ble_eq_true rfl)
theorem r_S_kind_10 : je X 14 10 [l0, l1, l2, l3, some (.inr r)] S σ = je X 14 12 [l0, l1, l2, l3, some (.inr r)] (.inr r :: S) σ := je_aload (show jm_fe 14 10 = some (jk_aload 4 2) from rfl) rfl
theorem r_S_kind_12 : je X 14 12 L (.inr (.inl o) :: S) σ = if o = none then je X 14 15 L S σ else je X 14 19 L S σ := je_ifnonnull (show jm_fe 14 12 = some (jk_ifnonnull 19) from rfl)
theorem r_S_kind_15 : je X 14 15 L S σ = je X 14 16 L (.inl (-1) :: S) σ := je_const (show jm_fe 14 15 = some (jk_const (-1) 1) from rfl)
theorem r_S_kind_16 : je X 14 16 L S σ = je X 14 29 L S σ := je_goto (show jm_fe 14 16 = some (jk_goto 29) from rfl)
theorem r_S_kind_19 : je X 14 19 [l0, l1, l2, l3, some (.inr r)] S σ = je X 14 21 [l0, l1, l2, l3, some (.inr r)] (.inr r :: S) σ := je_aload (show jm_fe 14 19 = some (jk_aload 4 2) from rfl) rfl
theorem r_S_kind_21 : je X 14 21 [l0, l1, some (.inl x), l3, l4] S σ = je X 14 22 [l0, l1, some (.inl x), l3, l4] (.inl x :: S) σ := je_iload (show jm_fe 14 21 = some (jk_iload 2 1) from rfl) rfl
theorem r_S_kind_22 (hc : jm_cl σ.1 a = some 5) (h8 : S.length ≤ 8) : je X 14 22 L (v0 :: .inr (.inl (some a)) :: S) σ = je_c X 14 25 L S (je X 84 0 [some (.inr (.inl (some a))), some v0] [] σ) := je_callV (as := [v0]) (S' := S) (show jm_fe 14 22 = some (jk_callV 84 1 5) from rfl) rfl hc h8
theorem r_S_kind_25 : je X 14 25 [l0, l1, l2, some (.inl x), l4] S σ = je X 14 26 [l0, l1, l2, some (.inl x), l4] (.inl x :: S) σ := je_iload (show jm_fe 14 25 = some (jk_iload 3 1) from rfl) rfl
theorem r_S_kind_26 (hc : jm_cl σ.1 a = some 6) (h8 : S.length ≤ 8) : je X 14 26 L (v0 :: .inr (.inl (some a)) :: S) σ = je_c X 14 29 L S (je X 72 0 [some (.inr (.inl (some a))), some v0] [] σ) := je_callV (as := [v0]) (S' := S) (show jm_fe 14 26 = some (jk_callV 72 1 6) from rfl) rfl hc h8
theorem r_S_kind_29 : je X 14 29 L [.inl p] σ = some (some (.inl p), σ) := je_iret (show jm_fe 14 29 = some (jk_iret) from rfl)
theorem r_S_row_0 : je X 15 0 [some (.inr r), l1, l2] S σ = je X 15 1 [some (.inr r), l1, l2] (.inr r :: S) σ := je_aload (show jm_fe 15 0 = some (jk_aload 0 1) from rfl) rfl
theorem r_S_row_1 : je X 15 1 L (.inr (.inl (some a)) :: S) σ = je_v X 15 4 L S σ (jm_gf σ.1 a 0 2) := je_getf (show jm_fe 15 1 = some (jk_getf 0 2) from rfl)
theorem r_S_row_4 : je X 15 4 L (.inr (.inl (some a)) :: S) σ = je_v X 15 7 L S σ (jm_gf σ.1 a 4 3) := je_getf (show jm_fe 15 4 = some (jk_getf 4 3) from rfl)
theorem r_S_row_7 : je X 15 7 [l0, some (.inl x), l2] S σ = je X 15 8 [l0, some (.inl x), l2] (.inl x :: S) σ := je_iload (show jm_fe 15 7 = some (jk_iload 1 1) from rfl) rfl
theorem r_S_row_8 : je X 15 8 [l0, l1, some (.inl x)] S σ = je X 15 9 [l0, l1, some (.inl x)] (.inl x :: S) σ := je_iload (show jm_fe 15 8 = some (jk_iload 2 1) from rfl) rfl
theorem r_S_row_9 (hc : jm_cl σ.1 a = some 7) (h8 : S.length ≤ 8) : je X 15 9 L (v1 :: v0 :: .inr (.inl (some a)) :: S) σ = je_c X 15 12 L S (je X 110 0 [some (.inr (.inl (some a))), some v0, some v1] [] σ) := je_callV (as := [v0, v1]) (S' := S) (show jm_fe 15 9 = some (jk_callV 110 2 7) from rfl) rfl hc h8
theorem r_S_row_12 : je X 15 12 L [.inl p] σ = some (some (.inl p), σ) := je_iret (show jm_fe 15 12 = some (jk_iret) from rfl)
theorem r_S_trace_0 : je X 16 0 [some (.inr r), l1, l2] S σ = je X 16 1 [some (.inr r), l1, l2] (.inr r :: S) σ := je_aload (show jm_fe 16 0 = some (jk_aload 0 1) from rfl) rfl
theorem r_S_trace_1 : je X 16 1 L (.inr (.inl (some a)) :: S) σ = je_v X 16 4 L S σ (jm_gf σ.1 a 0 2) := je_getf (show jm_fe 16 1 = some (jk_getf 0 2) from rfl)
theorem r_S_trace_4 : je X 16 4 L (.inr (.inl (some a)) :: S) σ = je_v X 16 7 L S σ (jm_gf σ.1 a 4 4) := je_getf (show jm_fe 16 4 = some (jk_getf 4 4) from rfl)
theorem r_S_trace_7 : je X 16 7 [l0, some (.inl x), l2] S σ = je X 16 8 [l0, some (.inl x), l2] (.inl x :: S) σ := je_iload (show jm_fe 16 7 = some (jk_iload 1 1) from rfl) rfl
theorem r_S_trace_8 : je X 16 8 [l0, l1, some (.inl x)] S σ = je X 16 9 [l0, l1, some (.inl x)] (.inl x :: S) σ := je_iload (show jm_fe 16 8 = some (jk_iload 2 1) from rfl) rfl
theorem r_S_trace_9 (hc : jm_cl σ.1 a = some 8) (h8 : S.length ≤ 8) : je X 16 9 L (v1 :: v0 :: .inr (.inl (some a)) :: S) σ = je_c X 16 12 L S (je X 100 0 [some (.inr (.inl (some a))), some v0, some v1, none] [] σ) := je_callV (as := [v0, v1]) (S' := S) (show jm_fe 16 9 = some (jk_callV 100 2 8) from rfl) rfl hc h8
theorem r_S_trace_12 : je X 16 12 L [.inl p] σ = some (some (.inl p), σ) := je_iret (show jm_fe 16 12 = some (jk_iret) from rfl)
end JR
