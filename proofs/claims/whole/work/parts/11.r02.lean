section JR
variable {X : jm_X} {L : jm_L} {S : List jm_V} {σ : jm_S} {l0 l1 l2 l3 l4 l5 l6 l7 : Option jm_V} {x p q : Int32} {a : Nat} {r : Option Nat ⊕ Unit} {o : Option Nat} {u : Unit} {v w v0 v1 v2 v3 v4 v5 : jm_V}
theorem r_M_canBe_0 : je X 41 0 [some (.inr r), l1, l2, l3] S σ = je X 41 1 [some (.inr r), l1, l2, l3] (.inr r :: S) σ := je_aload (show jm_fe 41 0 = some (jk_aload 0 1) from rfl) rfl
theorem r_M_canBe_1 : je X 41 1 L (.inr (.inl (some a)) :: S) σ = je_v X 41 4 L S σ (jm_gf σ.1 a 9 25) := je_getf (show jm_fe 41 1 = some (jk_getf 9 25) from rfl)
theorem r_M_canBe_4 : je X 41 4 [some (.inr r), l1, l2, l3] S σ = je X 41 5 [some (.inr r), l1, l2, l3] (.inr r :: S) σ := je_aload (show jm_fe 41 4 = some (jk_aload 0 1) from rfl) rfl
theorem r_M_canBe_5 : je X 41 5 L (.inr (.inl (some a)) :: S) σ = je_v X 41 8 L S σ (jm_gf σ.1 a 9 22) := je_getf (show jm_fe 41 5 = some (jk_getf 9 22) from rfl)
theorem r_M_canBe_8 : je X 41 8 L S σ = je X 41 9 L (.inl 1 :: S) σ := je_const (show jm_fe 41 8 = some (jk_const 1 1) from rfl)
theorem r_M_canBe_9 : je X 41 9 L (.inl q :: .inl p :: S) σ = je X 41 10 L (.inl (p - q) :: S) σ := je_bin (show jm_fe 41 9 = some (jb_isub) from rfl)
theorem r_M_canBe_10 : je X 41 10 L (.inl p :: .inr (.inl (some a)) :: S) σ = je_i X 41 11 L S σ (jm_al σ.1 a 0 p) := je_ald (show jm_fe 41 10 = some (jk_ald 0) from rfl)
theorem r_M_canBe_11 : je X 41 11 L (.inl p :: S) σ = if p ≤ 0 then je X 41 18 L S σ else je X 41 14 L S σ := je_if_le (show jm_fe 41 11 = some (jk_if .le 18) from rfl)
theorem r_M_canBe_14 : je X 41 14 L S σ = je X 41 15 L (.inl 1 :: S) σ := je_const (show jm_fe 41 14 = some (jk_const 1 1) from rfl)
theorem r_M_canBe_15 : je X 41 15 L S σ = je X 41 19 L S σ := je_goto (show jm_fe 41 15 = some (jk_goto 19) from rfl)
theorem r_M_canBe_18 : je X 41 18 L S σ = je X 41 19 L (.inl 0 :: S) σ := je_const (show jm_fe 41 18 = some (jk_const 0 1) from rfl)
theorem r_M_canBe_19 : je X 41 19 [l0, l1, l2, l3] (.inl x :: S) σ = je X 41 20 [l0, l1, l2, some (.inl x)] S σ := je_istore (show jm_fe 41 19 = some (jk_istore 3 1) from rfl) (Nat.le_of_ble_eq_true rfl)
theorem r_M_canBe_20 : je X 41 20 [l0, some (.inl x), l2, l3] S σ = je X 41 21 [l0, some (.inl x), l2, l3] (.inl x :: S) σ := je_iload (show jm_fe 41 20 = some (jk_iload 1 1) from rfl) rfl
theorem r_M_canBe_21 : je X 41 21 L (.inl p :: S) σ = je X 41 (jm_sw [(0, 152), (1, 157), (2, 159), (3, 176), (4, 197), (5, 218), (6, 417), (7, 417), (8, 417), (9, 417), (10, 417), (11, 417), (12, 417), (13, 417), (14, 417), (15, 417), (16, 417), (17, 417), (18, 236), (19, 238), (20, 238), (21, 238), (22, 245), (23, 252), (24, 259), (25, 266), (26, 312), (27, 352), (28, 238)] 417 p) L S σ := je_sw (show jm_fe 41 21 = some (jk_sw [(0, 152), (1, 157), (2, 159), (3, 176), (4, 197), (5, 218), (6, 417), (7, 417), (8, 417), (9, 417), (10, 417), (11, 417), (12, 417), (13, 417), (14, 417), (15, 417), (16, 417), (17, 417), (18, 236), (19, 238), (20, 238), (21, 238), (22, 245), (23, 252), (24, 259), (25, 266), (26, 312), (27, 352), (28, 238)] 417) from rfl)
theorem r_M_canBe_152 : je X 41 152 [some (.inr r), l1, l2, l3] S σ = je X 41 153 [some (.inr r), l1, l2, l3] (.inr r :: S) σ := je_aload (show jm_fe 41 152 = some (jk_aload 0 1) from rfl) rfl
theorem r_M_canBe_153 (hc : jm_cl σ.1 a = some 9) (h8 : S.length ≤ 8) : je X 41 153 L (.inr (.inl (some a)) :: S) σ = je_c X 41 156 L S (je X 39 0 [some (.inr (.inl (some a)))] [] σ) := je_callV (as := []) (S' := S) (show jm_fe 41 153 = some (jk_callV 39 0 9) from rfl) rfl hc h8
theorem r_M_canBe_156 (hx : p = 0 ∨ p = 1) : je X 41 156 L [.inl p] σ = some (some (.inl p), σ) := je_zret (show jm_fe 41 156 = some (jk_zret) from rfl) hx
theorem r_M_canBe_157 : je X 41 157 [l0, l1, l2, some (.inl x)] S σ = je X 41 158 [l0, l1, l2, some (.inl x)] (.inl x :: S) σ := je_iload (show jm_fe 41 157 = some (jk_iload 3 1) from rfl) rfl
theorem r_M_canBe_158 (hx : p = 0 ∨ p = 1) : je X 41 158 L [.inl p] σ = some (some (.inl p), σ) := je_zret (show jm_fe 41 158 = some (jk_zret) from rfl) hx
theorem r_M_canBe_159 : je X 41 159 [l0, l1, l2, some (.inl x)] S σ = je X 41 160 [l0, l1, l2, some (.inl x)] (.inl x :: S) σ := je_iload (show jm_fe 41 159 = some (jk_iload 3 1) from rfl) rfl
theorem r_M_canBe_160 : je X 41 160 L (.inl p :: S) σ = if p = 0 then je X 41 174 L S σ else je X 41 163 L S σ := je_if_eq (show jm_fe 41 160 = some (jk_if .eq 174) from rfl)
theorem r_M_canBe_163 : je X 41 163 [some (.inr r), l1, l2, l3] S σ = je X 41 164 [some (.inr r), l1, l2, l3] (.inr r :: S) σ := je_aload (show jm_fe 41 163 = some (jk_aload 0 1) from rfl) rfl
theorem r_M_canBe_164 (hc : jm_cl σ.1 a = some 9) (h8 : S.length ≤ 8) : je X 41 164 L (.inr (.inl (some a)) :: S) σ = je_c X 41 167 L S (je X 39 0 [some (.inr (.inl (some a)))] [] σ) := je_callV (as := []) (S' := S) (show jm_fe 41 164 = some (jk_callV 39 0 9) from rfl) rfl hc h8
theorem r_M_canBe_167 : je X 41 167 L (.inl p :: S) σ = if p = 0 then je X 41 174 L S σ else je X 41 170 L S σ := je_if_eq (show jm_fe 41 167 = some (jk_if .eq 174) from rfl)
theorem r_M_canBe_170 : je X 41 170 L S σ = je X 41 171 L (.inl 1 :: S) σ := je_const (show jm_fe 41 170 = some (jk_const 1 1) from rfl)
theorem r_M_canBe_171 : je X 41 171 L S σ = je X 41 175 L S σ := je_goto (show jm_fe 41 171 = some (jk_goto 175) from rfl)
theorem r_M_canBe_174 : je X 41 174 L S σ = je X 41 175 L (.inl 0 :: S) σ := je_const (show jm_fe 41 174 = some (jk_const 0 1) from rfl)
theorem r_M_canBe_175 (hx : p = 0 ∨ p = 1) : je X 41 175 L [.inl p] σ = some (some (.inl p), σ) := je_zret (show jm_fe 41 175 = some (jk_zret) from rfl) hx
theorem r_M_canBe_176 : je X 41 176 [some (.inr r), l1, l2, l3] S σ = je X 41 177 [some (.inr r), l1, l2, l3] (.inr r :: S) σ := je_aload (show jm_fe 41 176 = some (jk_aload 0 1) from rfl) rfl
theorem r_M_canBe_177 : je X 41 177 L (.inr (.inl (some a)) :: S) σ = je_v X 41 180 L S σ (jm_gf σ.1 a 9 25) := je_getf (show jm_fe 41 177 = some (jk_getf 9 25) from rfl)
theorem r_M_canBe_180 : je X 41 180 [some (.inr r), l1, l2, l3] S σ = je X 41 181 [some (.inr r), l1, l2, l3] (.inr r :: S) σ := je_aload (show jm_fe 41 180 = some (jk_aload 0 1) from rfl) rfl
theorem r_M_canBe_181 : je X 41 181 L (.inr (.inl (some a)) :: S) σ = je_v X 41 184 L S σ (jm_gf σ.1 a 9 22) := je_getf (show jm_fe 41 181 = some (jk_getf 9 22) from rfl)
theorem r_M_canBe_184 : je X 41 184 L S σ = je X 41 185 L (.inl 1 :: S) σ := je_const (show jm_fe 41 184 = some (jk_const 1 1) from rfl)
theorem r_M_canBe_185 : je X 41 185 L (.inl q :: .inl p :: S) σ = je X 41 186 L (.inl (p - q) :: S) σ := je_bin (show jm_fe 41 185 = some (jb_isub) from rfl)
theorem r_M_canBe_186 : je X 41 186 L (.inl p :: .inr (.inl (some a)) :: S) σ = je_i X 41 187 L S σ (jm_al σ.1 a 0 p) := je_ald (show jm_fe 41 186 = some (jk_ald 0) from rfl)
theorem r_M_canBe_187 : je X 41 187 L S σ = je X 41 188 L (.inl 1 :: S) σ := je_const (show jm_fe 41 187 = some (jk_const 1 1) from rfl)
theorem r_M_canBe_188 : je X 41 188 L (.inl q :: .inl p :: S) σ = if p ≤ q then je X 41 195 L S σ else je X 41 191 L S σ := je_icmp_le (show jm_fe 41 188 = some (jk_icmp .le 195) from rfl)
theorem r_M_canBe_191 : je X 41 191 L S σ = je X 41 192 L (.inl 1 :: S) σ := je_const (show jm_fe 41 191 = some (jk_const 1 1) from rfl)
theorem r_M_canBe_192 : je X 41 192 L S σ = je X 41 196 L S σ := je_goto (show jm_fe 41 192 = some (jk_goto 196) from rfl)
theorem r_M_canBe_195 : je X 41 195 L S σ = je X 41 196 L (.inl 0 :: S) σ := je_const (show jm_fe 41 195 = some (jk_const 0 1) from rfl)
theorem r_M_canBe_196 (hx : p = 0 ∨ p = 1) : je X 41 196 L [.inl p] σ = some (some (.inl p), σ) := je_zret (show jm_fe 41 196 = some (jk_zret) from rfl) hx
theorem r_M_canBe_197 : je X 41 197 [some (.inr r), l1, l2, l3] S σ = je X 41 198 [some (.inr r), l1, l2, l3] (.inr r :: S) σ := je_aload (show jm_fe 41 197 = some (jk_aload 0 1) from rfl) rfl
theorem r_M_canBe_198 : je X 41 198 [l0, l1, some (.inl x), l3] S σ = je X 41 199 [l0, l1, some (.inl x), l3] (.inl x :: S) σ := je_iload (show jm_fe 41 198 = some (jk_iload 2 1) from rfl) rfl
theorem r_M_canBe_199 (hc : jm_cl σ.1 a = some 9) (h8 : S.length ≤ 8) : je X 41 199 L (v0 :: .inr (.inl (some a)) :: S) σ = je_c X 41 202 L S (je X 40 0 [some (.inr (.inl (some a))), some v0] [] σ) := je_callV (as := [v0]) (S' := S) (show jm_fe 41 199 = some (jk_callV 40 1 9) from rfl) rfl hc h8
theorem r_M_canBe_202 : je X 41 202 L (.inl p :: S) σ = if p = 0 then je X 41 216 L S σ else je X 41 205 L S σ := je_if_eq (show jm_fe 41 202 = some (jk_if .eq 216) from rfl)
theorem r_M_canBe_205 : je X 41 205 [some (.inr r), l1, l2, l3] S σ = je X 41 206 [some (.inr r), l1, l2, l3] (.inr r :: S) σ := je_aload (show jm_fe 41 205 = some (jk_aload 0 1) from rfl) rfl
theorem r_M_canBe_206 (hc : jm_cl σ.1 a = some 9) (h8 : S.length ≤ 8) : je X 41 206 L (.inr (.inl (some a)) :: S) σ = je_c X 41 209 L S (je X 39 0 [some (.inr (.inl (some a)))] [] σ) := je_callV (as := []) (S' := S) (show jm_fe 41 206 = some (jk_callV 39 0 9) from rfl) rfl hc h8
theorem r_M_canBe_209 : je X 41 209 L (.inl p :: S) σ = if p = 0 then je X 41 216 L S σ else je X 41 212 L S σ := je_if_eq (show jm_fe 41 209 = some (jk_if .eq 216) from rfl)
theorem r_M_canBe_212 : je X 41 212 L S σ = je X 41 213 L (.inl 1 :: S) σ := je_const (show jm_fe 41 212 = some (jk_const 1 1) from rfl)
theorem r_M_canBe_213 : je X 41 213 L S σ = je X 41 217 L S σ := je_goto (show jm_fe 41 213 = some (jk_goto 217) from rfl)
theorem r_M_canBe_216 : je X 41 216 L S σ = je X 41 217 L (.inl 0 :: S) σ := je_const (show jm_fe 41 216 = some (jk_const 0 1) from rfl)
theorem r_M_canBe_217 (hx : p = 0 ∨ p = 1) : je X 41 217 L [.inl p] σ = some (some (.inl p), σ) := je_zret (show jm_fe 41 217 = some (jk_zret) from rfl) hx
theorem r_M_canBe_218 : je X 41 218 [some (.inr r), l1, l2, l3] S σ = je X 41 219 [some (.inr r), l1, l2, l3] (.inr r :: S) σ := je_aload (show jm_fe 41 218 = some (jk_aload 0 1) from rfl) rfl
theorem r_M_canBe_219 : je X 41 219 [l0, l1, some (.inl x), l3] S σ = je X 41 220 [l0, l1, some (.inl x), l3] (.inl x :: S) σ := je_iload (show jm_fe 41 219 = some (jk_iload 2 1) from rfl) rfl
theorem r_M_canBe_220 (hc : jm_cl σ.1 a = some 9) (h8 : S.length ≤ 8) : je X 41 220 L (v0 :: .inr (.inl (some a)) :: S) σ = je_c X 41 223 L S (je X 40 0 [some (.inr (.inl (some a))), some v0] [] σ) := je_callV (as := [v0]) (S' := S) (show jm_fe 41 220 = some (jk_callV 40 1 9) from rfl) rfl hc h8
theorem r_M_canBe_223 : je X 41 223 L (.inl p :: S) σ = if p = 0 then je X 41 234 L S σ else je X 41 226 L S σ := je_if_eq (show jm_fe 41 223 = some (jk_if .eq 234) from rfl)
theorem r_M_canBe_226 : je X 41 226 [l0, l1, l2, some (.inl x)] S σ = je X 41 227 [l0, l1, l2, some (.inl x)] (.inl x :: S) σ := je_iload (show jm_fe 41 226 = some (jk_iload 3 1) from rfl) rfl
theorem r_M_canBe_227 : je X 41 227 L (.inl p :: S) σ = if p = 0 then je X 41 234 L S σ else je X 41 230 L S σ := je_if_eq (show jm_fe 41 227 = some (jk_if .eq 234) from rfl)
theorem r_M_canBe_230 : je X 41 230 L S σ = je X 41 231 L (.inl 1 :: S) σ := je_const (show jm_fe 41 230 = some (jk_const 1 1) from rfl)
theorem r_M_canBe_231 : je X 41 231 L S σ = je X 41 235 L S σ := je_goto (show jm_fe 41 231 = some (jk_goto 235) from rfl)
theorem r_M_canBe_234 : je X 41 234 L S σ = je X 41 235 L (.inl 0 :: S) σ := je_const (show jm_fe 41 234 = some (jk_const 0 1) from rfl)
theorem r_M_canBe_235 (hx : p = 0 ∨ p = 1) : je X 41 235 L [.inl p] σ = some (some (.inl p), σ) := je_zret (show jm_fe 41 235 = some (jk_zret) from rfl) hx
theorem r_M_canBe_236 : je X 41 236 L S σ = je X 41 237 L (.inl 1 :: S) σ := je_const (show jm_fe 41 236 = some (jk_const 1 1) from rfl)
theorem r_M_canBe_237 (hx : p = 0 ∨ p = 1) : je X 41 237 L [.inl p] σ = some (some (.inl p), σ) := je_zret (show jm_fe 41 237 = some (jk_zret) from rfl) hx
theorem r_M_canBe_238 : je X 41 238 [some (.inr r), l1, l2, l3] S σ = je X 41 239 [some (.inr r), l1, l2, l3] (.inr r :: S) σ := je_aload (show jm_fe 41 238 = some (jk_aload 0 1) from rfl) rfl
theorem r_M_canBe_239 : je X 41 239 L S σ = je X 41 240 L (.inl 1 :: S) σ := je_const (show jm_fe 41 239 = some (jk_const 1 1) from rfl)
theorem r_M_canBe_240 : je X 41 240 L S σ = je X 41 241 L (.inl 0 :: S) σ := je_const (show jm_fe 41 240 = some (jk_const 0 1) from rfl)
theorem r_M_canBe_241 (hc : jm_cl σ.1 a = some 9) (h8 : S.length ≤ 8) : je X 41 241 L (v1 :: v0 :: .inr (.inl (some a)) :: S) σ = je_c X 41 244 L S (je X 38 0 [some (.inr (.inl (some a))), some v0, some v1, none, none, none] [] σ) := je_callV (as := [v0, v1]) (S' := S) (show jm_fe 41 241 = some (jk_callV 38 2 9) from rfl) rfl hc h8
theorem r_M_canBe_244 (hx : p = 0 ∨ p = 1) : je X 41 244 L [.inl p] σ = some (some (.inl p), σ) := je_zret (show jm_fe 41 244 = some (jk_zret) from rfl) hx
theorem r_M_canBe_245 : je X 41 245 [some (.inr r), l1, l2, l3] S σ = je X 41 246 [some (.inr r), l1, l2, l3] (.inr r :: S) σ := je_aload (show jm_fe 41 245 = some (jk_aload 0 1) from rfl) rfl
theorem r_M_canBe_246 : je X 41 246 L S σ = je X 41 247 L (.inl 1 :: S) σ := je_const (show jm_fe 41 246 = some (jk_const 1 1) from rfl)
theorem r_M_canBe_247 : je X 41 247 L S σ = je X 41 248 L (.inl 1 :: S) σ := je_const (show jm_fe 41 247 = some (jk_const 1 1) from rfl)
theorem r_M_canBe_248 (hc : jm_cl σ.1 a = some 9) (h8 : S.length ≤ 8) : je X 41 248 L (v1 :: v0 :: .inr (.inl (some a)) :: S) σ = je_c X 41 251 L S (je X 38 0 [some (.inr (.inl (some a))), some v0, some v1, none, none, none] [] σ) := je_callV (as := [v0, v1]) (S' := S) (show jm_fe 41 248 = some (jk_callV 38 2 9) from rfl) rfl hc h8
theorem r_M_canBe_251 (hx : p = 0 ∨ p = 1) : je X 41 251 L [.inl p] σ = some (some (.inl p), σ) := je_zret (show jm_fe 41 251 = some (jk_zret) from rfl) hx
theorem r_M_canBe_252 : je X 41 252 [some (.inr r), l1, l2, l3] S σ = je X 41 253 [some (.inr r), l1, l2, l3] (.inr r :: S) σ := je_aload (show jm_fe 41 252 = some (jk_aload 0 1) from rfl) rfl
theorem r_M_canBe_253 : je X 41 253 L S σ = je X 41 254 L (.inl 2 :: S) σ := je_const (show jm_fe 41 253 = some (jk_const 2 1) from rfl)
theorem r_M_canBe_254 : je X 41 254 L S σ = je X 41 255 L (.inl 1 :: S) σ := je_const (show jm_fe 41 254 = some (jk_const 1 1) from rfl)
theorem r_M_canBe_255 (hc : jm_cl σ.1 a = some 9) (h8 : S.length ≤ 8) : je X 41 255 L (v1 :: v0 :: .inr (.inl (some a)) :: S) σ = je_c X 41 258 L S (je X 38 0 [some (.inr (.inl (some a))), some v0, some v1, none, none, none] [] σ) := je_callV (as := [v0, v1]) (S' := S) (show jm_fe 41 255 = some (jk_callV 38 2 9) from rfl) rfl hc h8
theorem r_M_canBe_258 (hx : p = 0 ∨ p = 1) : je X 41 258 L [.inl p] σ = some (some (.inl p), σ) := je_zret (show jm_fe 41 258 = some (jk_zret) from rfl) hx
theorem r_M_canBe_259 : je X 41 259 [some (.inr r), l1, l2, l3] S σ = je X 41 260 [some (.inr r), l1, l2, l3] (.inr r :: S) σ := je_aload (show jm_fe 41 259 = some (jk_aload 0 1) from rfl) rfl
theorem r_M_canBe_260 : je X 41 260 L S σ = je X 41 261 L (.inl 0 :: S) σ := je_const (show jm_fe 41 260 = some (jk_const 0 1) from rfl)
theorem r_M_canBe_261 : je X 41 261 L S σ = je X 41 262 L (.inl 1 :: S) σ := je_const (show jm_fe 41 261 = some (jk_const 1 1) from rfl)
theorem r_M_canBe_262 (hc : jm_cl σ.1 a = some 9) (h8 : S.length ≤ 8) : je X 41 262 L (v1 :: v0 :: .inr (.inl (some a)) :: S) σ = je_c X 41 265 L S (je X 38 0 [some (.inr (.inl (some a))), some v0, some v1, none, none, none] [] σ) := je_callV (as := [v0, v1]) (S' := S) (show jm_fe 41 262 = some (jk_callV 38 2 9) from rfl) rfl hc h8
theorem r_M_canBe_265 (hx : p = 0 ∨ p = 1) : je X 41 265 L [.inl p] σ = some (some (.inl p), σ) := je_zret (show jm_fe 41 265 = some (jk_zret) from rfl) hx
theorem r_M_canBe_266 : je X 41 266 [some (.inr r), l1, l2, l3] S σ = je X 41 267 [some (.inr r), l1, l2, l3] (.inr r :: S) σ := je_aload (show jm_fe 41 266 = some (jk_aload 0 1) from rfl) rfl
theorem r_M_canBe_267 : je X 41 267 [l0, l1, some (.inl x), l3] S σ = je X 41 268 [l0, l1, some (.inl x), l3] (.inl x :: S) σ := je_iload (show jm_fe 41 267 = some (jk_iload 2 1) from rfl) rfl
theorem r_M_canBe_268 (hc : jm_cl σ.1 a = some 9) (h8 : S.length ≤ 8) : je X 41 268 L (v0 :: .inr (.inl (some a)) :: S) σ = je_c X 41 271 L S (je X 20 0 [some (.inr (.inl (some a))), some v0] [] σ) := je_callV (as := [v0]) (S' := S) (show jm_fe 41 268 = some (jk_callV 20 1 9) from rfl) rfl hc h8
theorem r_M_canBe_271 : je X 41 271 L (.inl p :: S) σ = if p = 0 then je X 41 310 L S σ else je X 41 274 L S σ := je_if_eq (show jm_fe 41 271 = some (jk_if .eq 310) from rfl)
theorem r_M_canBe_274 : je X 41 274 [some (.inr r), l1, l2, l3] S σ = je X 41 275 [some (.inr r), l1, l2, l3] (.inr r :: S) σ := je_aload (show jm_fe 41 274 = some (jk_aload 0 1) from rfl) rfl
theorem r_M_canBe_275 : je X 41 275 L (.inr (.inl (some a)) :: S) σ = je_v X 41 278 L S σ (jm_gf σ.1 a 9 25) := je_getf (show jm_fe 41 275 = some (jk_getf 9 25) from rfl)
set_option maxRecDepth 20000 in
theorem r_M_canBe_278 : je X 41 278 [some (.inr r), l1, l2, l3] S σ = je X 41 279 [some (.inr r), l1, l2, l3] (.inr r :: S) σ := je_aload (show jm_fe 41 278 = some (jk_aload 0 1) from rfl) rfl
set_option maxRecDepth 20000 in
theorem r_M_canBe_279 : je X 41 279 L (.inr (.inl (some a)) :: S) σ = je_v X 41 282 L S σ (jm_gf σ.1 a 9 22) := je_getf (show jm_fe 41 279 = some (jk_getf 9 22) from rfl)
set_option maxRecDepth 20000 in
theorem r_M_canBe_282 : je X 41 282 L S σ = je X 41 283 L (.inl 1 :: S) σ := je_const (show jm_fe 41 282 = some (jk_const 1 1) from rfl)
set_option maxRecDepth 20000 in
theorem r_M_canBe_283 : je X 41 283 L (.inl q :: .inl p :: S) σ = je X 41 284 L (.inl (p - q) :: S) σ := je_bin (show jm_fe 41 283 = some (jb_isub) from rfl)
set_option maxRecDepth 20000 in
theorem r_M_canBe_284 : je X 41 284 L (.inl p :: .inr (.inl (some a)) :: S) σ = je_i X 41 285 L S σ (jm_al σ.1 a 0 p) := je_ald (show jm_fe 41 284 = some (jk_ald 0) from rfl)
set_option maxRecDepth 20000 in
theorem r_M_canBe_285 : je X 41 285 [some (.inr r), l1, l2, l3] S σ = je X 41 286 [some (.inr r), l1, l2, l3] (.inr r :: S) σ := je_aload (show jm_fe 41 285 = some (jk_aload 0 1) from rfl) rfl
set_option maxRecDepth 20000 in
theorem r_M_canBe_286 : je X 41 286 L (.inr (.inl (some a)) :: S) σ = je_v X 41 289 L S σ (jm_gf σ.1 a 9 2) := je_getf (show jm_fe 41 286 = some (jk_getf 9 2) from rfl)
set_option maxRecDepth 20000 in
theorem r_M_canBe_289 : je X 41 289 [some (.inr r), l1, l2, l3] S σ = je X 41 290 [some (.inr r), l1, l2, l3] (.inr r :: S) σ := je_aload (show jm_fe 41 289 = some (jk_aload 0 1) from rfl) rfl
set_option maxRecDepth 20000 in
theorem r_M_canBe_290 : je X 41 290 [l0, l1, some (.inl x), l3] S σ = je X 41 291 [l0, l1, some (.inl x), l3] (.inl x :: S) σ := je_iload (show jm_fe 41 290 = some (jk_iload 2 1) from rfl) rfl
set_option maxRecDepth 20000 in
theorem r_M_canBe_291 (hc : jm_cl σ.1 a = some 9) (h8 : S.length ≤ 8) : je X 41 291 L (v0 :: .inr (.inl (some a)) :: S) σ = je_c X 41 294 L S (je X 20 0 [some (.inr (.inl (some a))), some v0] [] σ) := je_callV (as := [v0]) (S' := S) (show jm_fe 41 291 = some (jk_callV 20 1 9) from rfl) rfl hc h8
set_option maxRecDepth 20000 in
theorem r_M_canBe_294 : je X 41 294 L (.inl p :: S) σ = if p = 0 then je X 41 301 L S σ else je X 41 297 L S σ := je_if_eq (show jm_fe 41 294 = some (jk_if .eq 301) from rfl)
set_option maxRecDepth 20000 in
theorem r_M_canBe_297 : je X 41 297 [l0, l1, some (.inl x), l3] S σ = je X 41 298 [l0, l1, some (.inl x), l3] (.inl x :: S) σ := je_iload (show jm_fe 41 297 = some (jk_iload 2 1) from rfl) rfl
set_option maxRecDepth 20000 in
theorem r_M_canBe_298 : je X 41 298 L S σ = je X 41 302 L S σ := je_goto (show jm_fe 41 298 = some (jk_goto 302) from rfl)
set_option maxRecDepth 20000 in
theorem r_M_canBe_301 : je X 41 301 L S σ = je X 41 302 L (.inl 0 :: S) σ := je_const (show jm_fe 41 301 = some (jk_const 0 1) from rfl)
set_option maxRecDepth 20000 in
theorem r_M_canBe_302 : je X 41 302 L (.inl p :: .inr (.inl (some a)) :: S) σ = je_i X 41 303 L S σ (jm_al σ.1 a 0 p) := je_ald (show jm_fe 41 302 = some (jk_ald 0) from rfl)
set_option maxRecDepth 20000 in
theorem r_M_canBe_303 : je X 41 303 L (.inl q :: .inl p :: S) σ = if p < q then je X 41 310 L S σ else je X 41 306 L S σ := je_icmp_lt (show jm_fe 41 303 = some (jk_icmp .lt 310) from rfl)
set_option maxRecDepth 20000 in
theorem r_M_canBe_306 : je X 41 306 L S σ = je X 41 307 L (.inl 1 :: S) σ := je_const (show jm_fe 41 306 = some (jk_const 1 1) from rfl)
set_option maxRecDepth 20000 in
theorem r_M_canBe_307 : je X 41 307 L S σ = je X 41 311 L S σ := je_goto (show jm_fe 41 307 = some (jk_goto 311) from rfl)
set_option maxRecDepth 20000 in
theorem r_M_canBe_310 : je X 41 310 L S σ = je X 41 311 L (.inl 0 :: S) σ := je_const (show jm_fe 41 310 = some (jk_const 0 1) from rfl)
set_option maxRecDepth 20000 in
theorem r_M_canBe_311 (hx : p = 0 ∨ p = 1) : je X 41 311 L [.inl p] σ = some (some (.inl p), σ) := je_zret (show jm_fe 41 311 = some (jk_zret) from rfl) hx
set_option maxRecDepth 20000 in
theorem r_M_canBe_312 : je X 41 312 [l0, l1, some (.inl x), l3] S σ = je X 41 313 [l0, l1, some (.inl x), l3] (.inl x :: S) σ := je_iload (show jm_fe 41 312 = some (jk_iload 2 1) from rfl) rfl
set_option maxRecDepth 20000 in
theorem r_M_canBe_313 : je X 41 313 L (.inl p :: S) σ = if p < 0 then je X 41 350 L S σ else je X 41 316 L S σ := je_if_lt (show jm_fe 41 313 = some (jk_if .lt 350) from rfl)
set_option maxRecDepth 20000 in
theorem r_M_canBe_316 : je X 41 316 [l0, l1, some (.inl x), l3] S σ = je X 41 317 [l0, l1, some (.inl x), l3] (.inl x :: S) σ := je_iload (show jm_fe 41 316 = some (jk_iload 2 1) from rfl) rfl
set_option maxRecDepth 20000 in
theorem r_M_canBe_317 : je X 41 317 L S σ = je X 41 319 L (.inl 16 :: S) σ := je_const (show jm_fe 41 317 = some (jk_const (16) 2) from rfl)
set_option maxRecDepth 20000 in
theorem r_M_canBe_319 : je X 41 319 L (.inl q :: .inl p :: S) σ = if q ≤ p then je X 41 350 L S σ else je X 41 322 L S σ := je_icmp_ge (show jm_fe 41 319 = some (jk_icmp .ge 350) from rfl)
set_option maxRecDepth 20000 in
theorem r_M_canBe_322 : je X 41 322 [some (.inr r), l1, l2, l3] S σ = je X 41 323 [some (.inr r), l1, l2, l3] (.inr r :: S) σ := je_aload (show jm_fe 41 322 = some (jk_aload 0 1) from rfl) rfl
set_option maxRecDepth 20000 in
theorem r_M_canBe_323 : je X 41 323 [l0, l1, some (.inl x), l3] S σ = je X 41 324 [l0, l1, some (.inl x), l3] (.inl x :: S) σ := je_iload (show jm_fe 41 323 = some (jk_iload 2 1) from rfl) rfl
set_option maxRecDepth 20000 in
theorem r_M_canBe_324 : je X 41 324 L S σ = je X 41 325 L (.inl 4 :: S) σ := je_const (show jm_fe 41 324 = some (jk_const 4 1) from rfl)
set_option maxRecDepth 20000 in
theorem r_M_canBe_325 : je X 41 325 L (.inl q :: .inl p :: S) σ = if q = 0 then none else je X 41 326 L (.inl (p - p / q * q) :: S) σ := je_rem (show jm_fe 41 325 = some (jk_rem) from rfl)
set_option maxRecDepth 20000 in
theorem r_M_canBe_326 : je X 41 326 L S σ = je X 41 327 L (.inl 0 :: S) σ := je_const (show jm_fe 41 326 = some (jk_const 0 1) from rfl)
set_option maxRecDepth 20000 in
theorem r_M_canBe_327 (hc : jm_cl σ.1 a = some 9) (h8 : S.length ≤ 8) : je X 41 327 L (v1 :: v0 :: .inr (.inl (some a)) :: S) σ = je_c X 41 330 L S (je X 38 0 [some (.inr (.inl (some a))), some v0, some v1, none, none, none] [] σ) := je_callV (as := [v0, v1]) (S' := S) (show jm_fe 41 327 = some (jk_callV 38 2 9) from rfl) rfl hc h8
set_option maxRecDepth 20000 in
theorem r_M_canBe_330 : je X 41 330 L (.inl p :: S) σ = if p = 0 then je X 41 350 L S σ else je X 41 333 L S σ := je_if_eq (show jm_fe 41 330 = some (jk_if .eq 350) from rfl)
set_option maxRecDepth 20000 in
theorem r_M_canBe_333 : je X 41 333 [l0, l1, some (.inl x), l3] S σ = je X 41 334 [l0, l1, some (.inl x), l3] (.inl x :: S) σ := je_iload (show jm_fe 41 333 = some (jk_iload 2 1) from rfl) rfl
set_option maxRecDepth 20000 in
theorem r_M_canBe_334 : je X 41 334 L S σ = je X 41 335 L (.inl 4 :: S) σ := je_const (show jm_fe 41 334 = some (jk_const 4 1) from rfl)
set_option maxRecDepth 20000 in
theorem r_M_canBe_335 : je X 41 335 L (.inl q :: .inl p :: S) σ = if q = 0 then none else je X 41 336 L (.inl (p - p / q * q) :: S) σ := je_rem (show jm_fe 41 335 = some (jk_rem) from rfl)
set_option maxRecDepth 20000 in
theorem r_M_canBe_336 : je X 41 336 L (.inl p :: S) σ = if 0 < p then je X 41 346 L S σ else je X 41 339 L S σ := je_if_gt (show jm_fe 41 336 = some (jk_if .gt 346) from rfl)
set_option maxRecDepth 20000 in
theorem r_M_canBe_339 : je X 41 339 [some (.inr r), l1, l2, l3] S σ = je X 41 340 [some (.inr r), l1, l2, l3] (.inr r :: S) σ := je_aload (show jm_fe 41 339 = some (jk_aload 0 1) from rfl) rfl
set_option maxRecDepth 20000 in
theorem r_M_canBe_340 (hc : jm_cl σ.1 a = some 9) (h8 : S.length ≤ 8) : je X 41 340 L (.inr (.inl (some a)) :: S) σ = je_c X 41 343 L S (je X 39 0 [some (.inr (.inl (some a)))] [] σ) := je_callV (as := []) (S' := S) (show jm_fe 41 340 = some (jk_callV 39 0 9) from rfl) rfl hc h8
set_option maxRecDepth 20000 in
theorem r_M_canBe_343 : je X 41 343 L (.inl p :: S) σ = if p = 0 then je X 41 350 L S σ else je X 41 346 L S σ := je_if_eq (show jm_fe 41 343 = some (jk_if .eq 350) from rfl)
set_option maxRecDepth 20000 in
theorem r_M_canBe_346 : je X 41 346 L S σ = je X 41 347 L (.inl 1 :: S) σ := je_const (show jm_fe 41 346 = some (jk_const 1 1) from rfl)
set_option maxRecDepth 20000 in
theorem r_M_canBe_347 : je X 41 347 L S σ = je X 41 351 L S σ := je_goto (show jm_fe 41 347 = some (jk_goto 351) from rfl)
set_option maxRecDepth 20000 in
theorem r_M_canBe_350 : je X 41 350 L S σ = je X 41 351 L (.inl 0 :: S) σ := je_const (show jm_fe 41 350 = some (jk_const 0 1) from rfl)
set_option maxRecDepth 20000 in
theorem r_M_canBe_351 (hx : p = 0 ∨ p = 1) : je X 41 351 L [.inl p] σ = some (some (.inl p), σ) := je_zret (show jm_fe 41 351 = some (jk_zret) from rfl) hx
set_option maxRecDepth 20000 in
theorem r_M_canBe_352 : je X 41 352 [some (.inr r), l1, l2, l3] S σ = je X 41 353 [some (.inr r), l1, l2, l3] (.inr r :: S) σ := je_aload (show jm_fe 41 352 = some (jk_aload 0 1) from rfl) rfl
set_option maxRecDepth 20000 in
theorem r_M_canBe_353 : je X 41 353 L (.inr (.inl (some a)) :: S) σ = je_v X 41 356 L S σ (jm_gf σ.1 a 9 4) := je_getf (show jm_fe 41 353 = some (jk_getf 9 4) from rfl)
set_option maxRecDepth 20000 in
theorem r_M_canBe_356 : je X 41 356 [some (.inr r), l1, l2, l3] S σ = je X 41 357 [some (.inr r), l1, l2, l3] (.inr r :: S) σ := je_aload (show jm_fe 41 356 = some (jk_aload 0 1) from rfl) rfl
set_option maxRecDepth 20000 in
theorem r_M_canBe_357 : je X 41 357 L (.inr (.inl (some a)) :: S) σ = je_v X 41 360 L S σ (jm_gf σ.1 a 9 23) := je_getf (show jm_fe 41 357 = some (jk_getf 9 23) from rfl)
set_option maxRecDepth 20000 in
theorem r_M_canBe_360 : je X 41 360 [some (.inr r), l1, l2, l3] S σ = je X 41 361 [some (.inr r), l1, l2, l3] (.inr r :: S) σ := je_aload (show jm_fe 41 360 = some (jk_aload 0 1) from rfl) rfl
set_option maxRecDepth 20000 in
theorem r_M_canBe_361 : je X 41 361 L (.inr (.inl (some a)) :: S) σ = je_v X 41 364 L S σ (jm_gf σ.1 a 9 22) := je_getf (show jm_fe 41 361 = some (jk_getf 9 22) from rfl)
set_option maxRecDepth 20000 in
theorem r_M_canBe_364 : je X 41 364 L S σ = je X 41 365 L (.inl 1 :: S) σ := je_const (show jm_fe 41 364 = some (jk_const 1 1) from rfl)
set_option maxRecDepth 20000 in
theorem r_M_canBe_365 : je X 41 365 L (.inl q :: .inl p :: S) σ = je X 41 366 L (.inl (p - q) :: S) σ := je_bin (show jm_fe 41 365 = some (jb_isub) from rfl)
set_option maxRecDepth 20000 in
theorem r_M_canBe_366 : je X 41 366 L (.inl p :: .inr (.inl (some a)) :: S) σ = je_i X 41 367 L S σ (jm_al σ.1 a 0 p) := je_ald (show jm_fe 41 366 = some (jk_ald 0) from rfl)
set_option maxRecDepth 20000 in
theorem r_M_canBe_367 : je X 41 367 L (.inl p :: .inr (.inl (some a)) :: S) σ = je_i X 41 368 L S σ (jm_al σ.1 a 0 p) := je_ald (show jm_fe 41 367 = some (jk_ald 0) from rfl)
set_option maxRecDepth 20000 in
theorem r_M_canBe_368 : je X 41 368 L (.inl p :: S) σ = if p = 0 then je X 41 411 L S σ else je X 41 371 L S σ := je_if_eq (show jm_fe 41 368 = some (jk_if .eq 411) from rfl)
set_option maxRecDepth 20000 in
theorem r_M_canBe_371 : je X 41 371 [l0, l1, l2, some (.inl x)] S σ = je X 41 372 [l0, l1, l2, some (.inl x)] (.inl x :: S) σ := je_iload (show jm_fe 41 371 = some (jk_iload 3 1) from rfl) rfl
set_option maxRecDepth 20000 in
theorem r_M_canBe_372 : je X 41 372 L (.inl p :: S) σ = if p = 0 then je X 41 415 L S σ else je X 41 375 L S σ := je_if_eq (show jm_fe 41 372 = some (jk_if .eq 415) from rfl)
set_option maxRecDepth 20000 in
theorem r_M_canBe_375 : je X 41 375 [some (.inr r), l1, l2, l3] S σ = je X 41 376 [some (.inr r), l1, l2, l3] (.inr r :: S) σ := je_aload (show jm_fe 41 375 = some (jk_aload 0 1) from rfl) rfl
set_option maxRecDepth 20000 in
theorem r_M_canBe_376 : je X 41 376 L (.inr (.inl (some a)) :: S) σ = je_v X 41 379 L S σ (jm_gf σ.1 a 9 22) := je_getf (show jm_fe 41 376 = some (jk_getf 9 22) from rfl)
set_option maxRecDepth 20000 in
theorem r_M_canBe_379 : je X 41 379 L S σ = je X 41 380 L (.inl 1 :: S) σ := je_const (show jm_fe 41 379 = some (jk_const 1 1) from rfl)
set_option maxRecDepth 20000 in
theorem r_M_canBe_380 : je X 41 380 L (.inl q :: .inl p :: S) σ = if p = q then je X 41 411 L S σ else je X 41 383 L S σ := je_icmp_eq (show jm_fe 41 380 = some (jk_icmp .eq 411) from rfl)
set_option maxRecDepth 20000 in
theorem r_M_canBe_383 : je X 41 383 [some (.inr r), l1, l2, l3] S σ = je X 41 384 [some (.inr r), l1, l2, l3] (.inr r :: S) σ := je_aload (show jm_fe 41 383 = some (jk_aload 0 1) from rfl) rfl
set_option maxRecDepth 20000 in
theorem r_M_canBe_384 : je X 41 384 L (.inr (.inl (some a)) :: S) σ = je_v X 41 387 L S σ (jm_gf σ.1 a 9 25) := je_getf (show jm_fe 41 384 = some (jk_getf 9 25) from rfl)
set_option maxRecDepth 20000 in
theorem r_M_canBe_387 : je X 41 387 [some (.inr r), l1, l2, l3] S σ = je X 41 388 [some (.inr r), l1, l2, l3] (.inr r :: S) σ := je_aload (show jm_fe 41 387 = some (jk_aload 0 1) from rfl) rfl
set_option maxRecDepth 20000 in
theorem r_M_canBe_388 : je X 41 388 L (.inr (.inl (some a)) :: S) σ = je_v X 41 391 L S σ (jm_gf σ.1 a 9 22) := je_getf (show jm_fe 41 388 = some (jk_getf 9 22) from rfl)
set_option maxRecDepth 20000 in
theorem r_M_canBe_391 : je X 41 391 L S σ = je X 41 392 L (.inl 1 :: S) σ := je_const (show jm_fe 41 391 = some (jk_const 1 1) from rfl)
set_option maxRecDepth 20000 in
theorem r_M_canBe_392 : je X 41 392 L (.inl q :: .inl p :: S) σ = if p ≤ q then je X 41 404 L S σ else je X 41 395 L S σ := je_icmp_le (show jm_fe 41 392 = some (jk_icmp .le 404) from rfl)
set_option maxRecDepth 20000 in
theorem r_M_canBe_395 : je X 41 395 [some (.inr r), l1, l2, l3] S σ = je X 41 396 [some (.inr r), l1, l2, l3] (.inr r :: S) σ := je_aload (show jm_fe 41 395 = some (jk_aload 0 1) from rfl) rfl
set_option maxRecDepth 20000 in
theorem r_M_canBe_396 : je X 41 396 L (.inr (.inl (some a)) :: S) σ = je_v X 41 399 L S σ (jm_gf σ.1 a 9 22) := je_getf (show jm_fe 41 396 = some (jk_getf 9 22) from rfl)
set_option maxRecDepth 20000 in
theorem r_M_canBe_399 : je X 41 399 L S σ = je X 41 400 L (.inl 2 :: S) σ := je_const (show jm_fe 41 399 = some (jk_const 2 1) from rfl)
set_option maxRecDepth 20000 in
theorem r_M_canBe_400 : je X 41 400 L (.inl q :: .inl p :: S) σ = je X 41 401 L (.inl (p - q) :: S) σ := je_bin (show jm_fe 41 400 = some (jb_isub) from rfl)
set_option maxRecDepth 20000 in
theorem r_M_canBe_401 : je X 41 401 L S σ = je X 41 405 L S σ := je_goto (show jm_fe 41 401 = some (jk_goto 405) from rfl)
set_option maxRecDepth 20000 in
theorem r_M_canBe_404 : je X 41 404 L S σ = je X 41 405 L (.inl 0 :: S) σ := je_const (show jm_fe 41 404 = some (jk_const 0 1) from rfl)
set_option maxRecDepth 20000 in
theorem r_M_canBe_405 : je X 41 405 L (.inl p :: .inr (.inl (some a)) :: S) σ = je_i X 41 406 L S σ (jm_al σ.1 a 0 p) := je_ald (show jm_fe 41 405 = some (jk_ald 0) from rfl)
set_option maxRecDepth 20000 in
theorem r_M_canBe_406 : je X 41 406 L S σ = je X 41 408 L (.inl 16 :: S) σ := je_const (show jm_fe 41 406 = some (jk_const (16) 2) from rfl)
set_option maxRecDepth 20000 in
theorem r_M_canBe_408 : je X 41 408 L (.inl q :: .inl p :: S) σ = if q ≤ p then je X 41 415 L S σ else je X 41 411 L S σ := je_icmp_ge (show jm_fe 41 408 = some (jk_icmp .ge 415) from rfl)
set_option maxRecDepth 20000 in
theorem r_M_canBe_411 : je X 41 411 L S σ = je X 41 412 L (.inl 1 :: S) σ := je_const (show jm_fe 41 411 = some (jk_const 1 1) from rfl)
set_option maxRecDepth 20000 in
theorem r_M_canBe_412 : je X 41 412 L S σ = je X 41 416 L S σ := je_goto (show jm_fe 41 412 = some (jk_goto 416) from rfl)
set_option maxRecDepth 20000 in
theorem r_M_canBe_415 : je X 41 415 L S σ = je X 41 416 L (.inl 0 :: S) σ := je_const (show jm_fe 41 415 = some (jk_const 0 1) from rfl)
set_option maxRecDepth 20000 in
theorem r_M_canBe_416 (hx : p = 0 ∨ p = 1) : je X 41 416 L [.inl p] σ = some (some (.inl p), σ) := je_zret (show jm_fe 41 416 = some (jk_zret) from rfl) hx
set_option maxRecDepth 20000 in
theorem r_M_canBe_417 : je X 41 417 [some (.inr r), l1, l2, l3] S σ = je X 41 418 [some (.inr r), l1, l2, l3] (.inr r :: S) σ := je_aload (show jm_fe 41 417 = some (jk_aload 0 1) from rfl) rfl
set_option maxRecDepth 20000 in
theorem r_M_canBe_418 : je X 41 418 L S σ = je X 41 419 L (.inl 2 :: S) σ := je_const (show jm_fe 41 418 = some (jk_const 2 1) from rfl)
set_option maxRecDepth 20000 in
theorem r_M_canBe_419 : je X 41 419 L S σ = je X 41 420 L (.inl 0 :: S) σ := je_const (show jm_fe 41 419 = some (jk_const 0 1) from rfl)
set_option maxRecDepth 20000 in
theorem r_M_canBe_420 (hc : jm_cl σ.1 a = some 9) (h8 : S.length ≤ 8) : je X 41 420 L (v1 :: v0 :: .inr (.inl (some a)) :: S) σ = je_c X 41 423 L S (je X 38 0 [some (.inr (.inl (some a))), some v0, some v1, none, none, none] [] σ) := je_callV (as := [v0, v1]) (S' := S) (show jm_fe 41 420 = some (jk_callV 38 2 9) from rfl) rfl hc h8
set_option maxRecDepth 20000 in
theorem r_M_canBe_423 (hx : p = 0 ∨ p = 1) : je X 41 423 L [.inl p] σ = some (some (.inl p), σ) := je_zret (show jm_fe 41 423 = some (jk_zret) from rfl) hx
theorem r_M_raise_0 : je X 42 0 [some (.inr r), l1, l2, l3, l4] S σ = je X 42 1 [some (.inr r), l1, l2, l3, l4] (.inr r :: S) σ := je_aload (show jm_fe 42 0 = some (jk_aload 0 1) from rfl) rfl
theorem r_M_raise_1 : je X 42 1 L (.inr (.inl (some a)) :: S) σ = je_v X 42 4 L S σ (jm_gf σ.1 a 9 22) := je_getf (show jm_fe 42 1 = some (jk_getf 9 22) from rfl)
theorem r_M_raise_4 : je X 42 4 L (.inl p :: S) σ = if p ≤ 0 then je X 42 150 L S σ else je X 42 7 L S σ := je_if_le (show jm_fe 42 4 = some (jk_if .le 150) from rfl)
theorem r_M_raise_7 : je X 42 7 [some (.inr r), l1, l2, l3, l4] S σ = je X 42 8 [some (.inr r), l1, l2, l3, l4] (.inr r :: S) σ := je_aload (show jm_fe 42 7 = some (jk_aload 0 1) from rfl) rfl
theorem r_M_raise_8 : je X 42 8 L (.inr (.inl (some a)) :: S) σ = je_v X 42 11 L S σ (jm_gf σ.1 a 9 23) := je_getf (show jm_fe 42 8 = some (jk_getf 9 23) from rfl)
theorem r_M_raise_11 : je X 42 11 [some (.inr r), l1, l2, l3, l4] S σ = je X 42 12 [some (.inr r), l1, l2, l3, l4] (.inr r :: S) σ := je_aload (show jm_fe 42 11 = some (jk_aload 0 1) from rfl) rfl
theorem r_M_raise_12 : je X 42 12 L (.inr (.inl (some a)) :: S) σ = je_v X 42 15 L S σ (jm_gf σ.1 a 9 22) := je_getf (show jm_fe 42 12 = some (jk_getf 9 22) from rfl)
theorem r_M_raise_15 : je X 42 15 L S σ = je X 42 16 L (.inl 1 :: S) σ := je_const (show jm_fe 42 15 = some (jk_const 1 1) from rfl)
theorem r_M_raise_16 : je X 42 16 L (.inl q :: .inl p :: S) σ = je X 42 17 L (.inl (p - q) :: S) σ := je_bin (show jm_fe 42 16 = some (jb_isub) from rfl)
theorem r_M_raise_17 : je X 42 17 L (.inl p :: .inr (.inl (some a)) :: S) σ = je_i X 42 18 L S σ (jm_al σ.1 a 0 p) := je_ald (show jm_fe 42 17 = some (jk_ald 0) from rfl)
theorem r_M_raise_18 : je X 42 18 [l0, l1, l2, l3, l4] (.inl x :: S) σ = je X 42 19 [l0, l1, some (.inl x), l3, l4] S σ := je_istore (show jm_fe 42 18 = some (jk_istore 2 1) from rfl) (Nat.le_of_ble_eq_true rfl)
theorem r_M_raise_19 : je X 42 19 [some (.inr r), l1, l2, l3, l4] S σ = je X 42 20 [some (.inr r), l1, l2, l3, l4] (.inr r :: S) σ := je_aload (show jm_fe 42 19 = some (jk_aload 0 1) from rfl) rfl
theorem r_M_raise_20 : je X 42 20 L (.inr (.inl (some a)) :: S) σ = je_v X 42 23 L S σ (jm_gf σ.1 a 9 24) := je_getf (show jm_fe 42 20 = some (jk_getf 9 24) from rfl)
theorem r_M_raise_23 : je X 42 23 [some (.inr r), l1, l2, l3, l4] S σ = je X 42 24 [some (.inr r), l1, l2, l3, l4] (.inr r :: S) σ := je_aload (show jm_fe 42 23 = some (jk_aload 0 1) from rfl) rfl
theorem r_M_raise_24 : je X 42 24 L (.inr (.inl (some a)) :: S) σ = je_v X 42 27 L S σ (jm_gf σ.1 a 9 22) := je_getf (show jm_fe 42 24 = some (jk_getf 9 22) from rfl)
theorem r_M_raise_27 : je X 42 27 L S σ = je X 42 28 L (.inl 1 :: S) σ := je_const (show jm_fe 42 27 = some (jk_const 1 1) from rfl)
theorem r_M_raise_28 : je X 42 28 L (.inl q :: .inl p :: S) σ = je X 42 29 L (.inl (p - q) :: S) σ := je_bin (show jm_fe 42 28 = some (jb_isub) from rfl)
theorem r_M_raise_29 : je X 42 29 L (.inl p :: .inr (.inl (some a)) :: S) σ = je_i X 42 30 L S σ (jm_al σ.1 a 0 p) := je_ald (show jm_fe 42 29 = some (jk_ald 0) from rfl)
theorem r_M_raise_30 : je X 42 30 [l0, l1, l2, l3, l4] (.inl x :: S) σ = je X 42 31 [l0, l1, l2, some (.inl x), l4] S σ := je_istore (show jm_fe 42 30 = some (jk_istore 3 1) from rfl) (Nat.le_of_ble_eq_true rfl)
theorem r_M_raise_31 : je X 42 31 L S σ = je X 42 32 L (.inl 4 :: S) σ := je_const (show jm_fe 42 31 = some (jk_const 4 1) from rfl)
theorem r_M_raise_32 : je X 42 32 [l0, l1, some (.inl x), l3, l4] S σ = je X 42 33 [l0, l1, some (.inl x), l3, l4] (.inl x :: S) σ := je_iload (show jm_fe 42 32 = some (jk_iload 2 1) from rfl) rfl
theorem r_M_raise_33 : je X 42 33 L (.inl q :: .inl p :: S) σ = je X 42 34 L (.inl (p * q) :: S) σ := je_bin (show jm_fe 42 33 = some (jb_imul) from rfl)
theorem r_M_raise_34 : je X 42 34 [l0, l1, l2, l3, l4] (.inl x :: S) σ = je X 42 36 [l0, l1, l2, l3, some (.inl x)] S σ := je_istore (show jm_fe 42 34 = some (jk_istore 4 2) from rfl) (Nat.le_of_ble_eq_true rfl)
theorem r_M_raise_36 : je X 42 36 [l0, l1, l2, l3, some (.inl x)] S σ = je X 42 38 [l0, l1, l2, l3, some (.inl x)] (.inl x :: S) σ := je_iload (show jm_fe 42 36 = some (jk_iload 4 2) from rfl) rfl
theorem r_M_raise_38 : je X 42 38 L S σ = je X 42 39 L (.inl 4 :: S) σ := je_const (show jm_fe 42 38 = some (jk_const 4 1) from rfl)
theorem r_M_raise_39 : je X 42 39 [l0, l1, some (.inl x), l3, l4] S σ = je X 42 40 [l0, l1, some (.inl x), l3, l4] (.inl x :: S) σ := je_iload (show jm_fe 42 39 = some (jk_iload 2 1) from rfl) rfl
theorem r_M_raise_40 : je X 42 40 L (.inl q :: .inl p :: S) σ = je X 42 41 L (.inl (p * q) :: S) σ := je_bin (show jm_fe 42 40 = some (jb_imul) from rfl)
theorem r_M_raise_41 : je X 42 41 [some (.inr r), l1, l2, l3, l4] S σ = je X 42 42 [some (.inr r), l1, l2, l3, l4] (.inr r :: S) σ := je_aload (show jm_fe 42 41 = some (jk_aload 0 1) from rfl) rfl
theorem r_M_raise_42 : je X 42 42 L (.inr (.inl (some a)) :: S) σ = je_v X 42 45 L S σ (jm_gf σ.1 a 9 8) := je_getf (show jm_fe 42 42 = some (jk_getf 9 8) from rfl)
theorem r_M_raise_45 : je X 42 45 [l0, l1, some (.inl x), l3, l4] S σ = je X 42 46 [l0, l1, some (.inl x), l3, l4] (.inl x :: S) σ := je_iload (show jm_fe 42 45 = some (jk_iload 2 1) from rfl) rfl
theorem r_M_raise_46 : je X 42 46 L (.inl p :: .inr (.inl (some a)) :: S) σ = je_i X 42 47 L S σ (jm_al σ.1 a 0 p) := je_ald (show jm_fe 42 46 = some (jk_ald 0) from rfl)
theorem r_M_raise_47 : je X 42 47 L (.inl q :: .inl p :: S) σ = je X 42 48 L (.inl (p + q) :: S) σ := je_bin (show jm_fe 42 47 = some (jb_iadd) from rfl)
theorem r_M_raise_48 : je X 42 48 L (.inl q :: .inl p :: S) σ = if q ≤ p then je X 42 137 L S σ else je X 42 51 L S σ := je_icmp_ge (show jm_fe 42 48 = some (jk_icmp .ge 137) from rfl)
theorem r_M_raise_51 : je X 42 51 [some (.inr r), l1, l2, l3, l4] S σ = je X 42 52 [some (.inr r), l1, l2, l3, l4] (.inr r :: S) σ := je_aload (show jm_fe 42 51 = some (jk_aload 0 1) from rfl) rfl
theorem r_M_raise_52 : je X 42 52 L (.inr (.inl (some a)) :: S) σ = je_v X 42 55 L S σ (jm_gf σ.1 a 9 9) := je_getf (show jm_fe 42 52 = some (jk_getf 9 9) from rfl)
theorem r_M_raise_55 : je X 42 55 [l0, l1, l2, l3, some (.inl x)] S σ = je X 42 57 [l0, l1, l2, l3, some (.inl x)] (.inl x :: S) σ := je_iload (show jm_fe 42 55 = some (jk_iload 4 2) from rfl) rfl
theorem r_M_raise_57 : je X 42 57 L (.inl p :: .inr (.inl (some a)) :: S) σ = je_i X 42 58 L S σ (jm_al σ.1 a 0 p) := je_ald (show jm_fe 42 57 = some (jk_ald 0) from rfl)
theorem r_M_raise_58 : je X 42 58 [l0, l1, l2, some (.inl x), l4] S σ = je X 42 59 [l0, l1, l2, some (.inl x), l4] (.inl x :: S) σ := je_iload (show jm_fe 42 58 = some (jk_iload 3 1) from rfl) rfl
theorem r_M_raise_59 : je X 42 59 L (.inl q :: .inl p :: S) σ = if q < p then je X 42 131 L S σ else je X 42 62 L S σ := je_icmp_gt (show jm_fe 42 59 = some (jk_icmp .gt 131) from rfl)
theorem r_M_raise_62 : je X 42 62 [some (.inr r), l1, l2, l3, l4] S σ = je X 42 63 [some (.inr r), l1, l2, l3, l4] (.inr r :: S) σ := je_aload (show jm_fe 42 62 = some (jk_aload 0 1) from rfl) rfl
theorem r_M_raise_63 : je X 42 63 L (.inr (.inl (some a)) :: S) σ = je_v X 42 66 L S σ (jm_gf σ.1 a 9 10) := je_getf (show jm_fe 42 63 = some (jk_getf 9 10) from rfl)
theorem r_M_raise_66 : je X 42 66 [l0, l1, l2, l3, some (.inl x)] S σ = je X 42 68 [l0, l1, l2, l3, some (.inl x)] (.inl x :: S) σ := je_iload (show jm_fe 42 66 = some (jk_iload 4 2) from rfl) rfl
theorem r_M_raise_68 : je X 42 68 L (.inl p :: .inr (.inl (some a)) :: S) σ = je_i X 42 69 L S σ (jm_al σ.1 a 0 p) := je_ald (show jm_fe 42 68 = some (jk_ald 0) from rfl)
theorem r_M_raise_69 : je X 42 69 [l0, l1, l2, some (.inl x), l4] S σ = je X 42 70 [l0, l1, l2, some (.inl x), l4] (.inl x :: S) σ := je_iload (show jm_fe 42 69 = some (jk_iload 3 1) from rfl) rfl
theorem r_M_raise_70 : je X 42 70 L (.inl q :: .inl p :: S) σ = if p ≤ q then je X 42 131 L S σ else je X 42 73 L S σ := je_icmp_le (show jm_fe 42 70 = some (jk_icmp .le 131) from rfl)
theorem r_M_raise_73 : je X 42 73 [some (.inr r), l1, l2, l3, l4] S σ = je X 42 74 [some (.inr r), l1, l2, l3, l4] (.inr r :: S) σ := je_aload (show jm_fe 42 73 = some (jk_aload 0 1) from rfl) rfl
theorem r_M_raise_74 : je X 42 74 L (.inr (.inl (some a)) :: S) σ = je_v X 42 77 L S σ (jm_gf σ.1 a 9 12) := je_getf (show jm_fe 42 74 = some (jk_getf 9 12) from rfl)
theorem r_M_raise_77 : je X 42 77 [l0, l1, l2, l3, some (.inl x)] S σ = je X 42 79 [l0, l1, l2, l3, some (.inl x)] (.inl x :: S) σ := je_iload (show jm_fe 42 77 = some (jk_iload 4 2) from rfl) rfl
theorem r_M_raise_79 : je X 42 79 L (.inl p :: .inr (.inl (some a)) :: S) σ = je_i X 42 80 L S σ (jm_al σ.1 a 1 p) := je_ald (show jm_fe 42 79 = some (jk_ald 1) from rfl)
theorem r_M_raise_80 : je X 42 80 L (.inl p :: S) σ = if p = 0 then je X 42 83 L S σ else je X 42 94 L S σ := je_if_ne (show jm_fe 42 80 = some (jk_if .ne 94) from rfl)
theorem r_M_raise_83 : je X 42 83 [some (.inr r), l1, l2, l3, l4] S σ = je X 42 84 [some (.inr r), l1, l2, l3, l4] (.inr r :: S) σ := je_aload (show jm_fe 42 83 = some (jk_aload 0 1) from rfl) rfl
theorem r_M_raise_84 : je X 42 84 L (.inr (.inl (some a)) :: S) σ = je_v X 42 87 L S σ (jm_gf σ.1 a 9 13) := je_getf (show jm_fe 42 84 = some (jk_getf 9 13) from rfl)
theorem r_M_raise_87 : je X 42 87 [l0, l1, l2, l3, some (.inl x)] S σ = je X 42 89 [l0, l1, l2, l3, some (.inl x)] (.inl x :: S) σ := je_iload (show jm_fe 42 87 = some (jk_iload 4 2) from rfl) rfl
theorem r_M_raise_89 : je X 42 89 L (.inl p :: .inr (.inl (some a)) :: S) σ = je_i X 42 90 L S σ (jm_al σ.1 a 0 p) := je_ald (show jm_fe 42 89 = some (jk_ald 0) from rfl)
theorem r_M_raise_90 : je X 42 90 [l0, some (.inl x), l2, l3, l4] S σ = je X 42 91 [l0, some (.inl x), l2, l3, l4] (.inl x :: S) σ := je_iload (show jm_fe 42 90 = some (jk_iload 1 1) from rfl) rfl
theorem r_M_raise_91 : je X 42 91 L (.inl q :: .inl p :: S) σ = if p = q then je X 42 94 L S σ else je X 42 131 L S σ := je_icmp_ne (show jm_fe 42 91 = some (jk_icmp .ne 131) from rfl)
theorem r_M_raise_94 : je X 42 94 [some (.inr r), l1, l2, l3, l4] S σ = je X 42 95 [some (.inr r), l1, l2, l3, l4] (.inr r :: S) σ := je_aload (show jm_fe 42 94 = some (jk_aload 0 1) from rfl) rfl
theorem r_M_raise_95 : je X 42 95 L (.inr (.inl (some a)) :: S) σ = je_v X 42 98 L S σ (jm_gf σ.1 a 9 25) := je_getf (show jm_fe 42 95 = some (jk_getf 9 25) from rfl)
theorem r_M_raise_98 : je X 42 98 [some (.inr r), l1, l2, l3, l4] S σ = je X 42 99 [some (.inr r), l1, l2, l3, l4] (.inr r :: S) σ := je_aload (show jm_fe 42 98 = some (jk_aload 0 1) from rfl) rfl
theorem r_M_raise_99 : je X 42 99 L (.inr (.inl (some a)) :: S) σ = je_v X 42 102 L S σ (jm_gf σ.1 a 9 22) := je_getf (show jm_fe 42 99 = some (jk_getf 9 22) from rfl)
theorem r_M_raise_102 : je X 42 102 L S σ = je X 42 103 L (.inl 1 :: S) σ := je_const (show jm_fe 42 102 = some (jk_const 1 1) from rfl)
theorem r_M_raise_103 : je X 42 103 L (.inl q :: .inl p :: S) σ = je X 42 104 L (.inl (p - q) :: S) σ := je_bin (show jm_fe 42 103 = some (jb_isub) from rfl)
theorem r_M_raise_104 : je X 42 104 L S σ = je X 42 105 L (.inl 0 :: S) σ := je_const (show jm_fe 42 104 = some (jk_const 0 1) from rfl)
theorem r_M_raise_105 : je X 42 105 L (.inl q :: .inl p :: .inr (.inl (some a)) :: S) σ = je_h X 42 106 L S σ.2 (jm_as σ.1 a 0 p q) := je_iast (show jm_fe 42 105 = some (jk_iast) from rfl)
theorem r_M_raise_106 : je X 42 106 [some (.inr r), l1, l2, l3, l4] S σ = je X 42 107 [some (.inr r), l1, l2, l3, l4] (.inr r :: S) σ := je_aload (show jm_fe 42 106 = some (jk_aload 0 1) from rfl) rfl
theorem r_M_raise_107 : je X 42 107 [l0, some (.inl x), l2, l3, l4] S σ = je X 42 108 [l0, some (.inl x), l2, l3, l4] (.inl x :: S) σ := je_iload (show jm_fe 42 107 = some (jk_iload 1 1) from rfl) rfl
theorem r_M_raise_108 : je X 42 108 L S σ = je X 42 109 L (.inl 0 :: S) σ := je_const (show jm_fe 42 108 = some (jk_const 0 1) from rfl)
theorem r_M_raise_109 (hc : jm_cl σ.1 a = some 9) (h8 : S.length ≤ 8) : je X 42 109 L (v1 :: v0 :: .inr (.inl (some a)) :: S) σ = je_c X 42 112 L S (je X 34 0 [some (.inr (.inl (some a))), some v0, some v1, none] [] σ) := je_callV (as := [v0, v1]) (S' := S) (show jm_fe 42 109 = some (jk_callV 34 2 9) from rfl) rfl hc h8
theorem r_M_raise_112 : je X 42 112 [some (.inr r), l1, l2, l3, l4] S σ = je X 42 113 [some (.inr r), l1, l2, l3, l4] (.inr r :: S) σ := je_aload (show jm_fe 42 112 = some (jk_aload 0 1) from rfl) rfl
theorem r_M_raise_113 : je X 42 113 L (.inr (.inl (some a)) :: S) σ = je_v X 42 116 L S σ (jm_gf σ.1 a 9 24) := je_getf (show jm_fe 42 113 = some (jk_getf 9 24) from rfl)
theorem r_M_raise_116 : je X 42 116 [some (.inr r), l1, l2, l3, l4] S σ = je X 42 117 [some (.inr r), l1, l2, l3, l4] (.inr r :: S) σ := je_aload (show jm_fe 42 116 = some (jk_aload 0 1) from rfl) rfl
theorem r_M_raise_117 : je X 42 117 L (.inr (.inl (some a)) :: S) σ = je_v X 42 120 L S σ (jm_gf σ.1 a 9 22) := je_getf (show jm_fe 42 117 = some (jk_getf 9 22) from rfl)
theorem r_M_raise_120 : je X 42 120 L S σ = je X 42 121 L (.inl 1 :: S) σ := je_const (show jm_fe 42 120 = some (jk_const 1 1) from rfl)
theorem r_M_raise_121 : je X 42 121 L (.inl q :: .inl p :: S) σ = je X 42 122 L (.inl (p - q) :: S) σ := je_bin (show jm_fe 42 121 = some (jb_isub) from rfl)
theorem r_M_raise_122 : je X 42 122 [some (.inr r), l1, l2, l3, l4] S σ = je X 42 123 [some (.inr r), l1, l2, l3, l4] (.inr r :: S) σ := je_aload (show jm_fe 42 122 = some (jk_aload 0 1) from rfl) rfl
theorem r_M_raise_123 : je X 42 123 L (.inr (.inl (some a)) :: S) σ = je_v X 42 126 L S σ (jm_gf σ.1 a 9 11) := je_getf (show jm_fe 42 123 = some (jk_getf 9 11) from rfl)
theorem r_M_raise_126 : je X 42 126 [l0, l1, l2, l3, some (.inl x)] S σ = je X 42 128 [l0, l1, l2, l3, some (.inl x)] (.inl x :: S) σ := je_iload (show jm_fe 42 126 = some (jk_iload 4 2) from rfl) rfl
theorem r_M_raise_128 : je X 42 128 L (.inl p :: .inr (.inl (some a)) :: S) σ = je_i X 42 129 L S σ (jm_al σ.1 a 0 p) := je_ald (show jm_fe 42 128 = some (jk_ald 0) from rfl)
theorem r_M_raise_129 : je X 42 129 L (.inl q :: .inl p :: .inr (.inl (some a)) :: S) σ = je_h X 42 130 L S σ.2 (jm_as σ.1 a 0 p q) := je_iast (show jm_fe 42 129 = some (jk_iast) from rfl)
theorem r_M_raise_130 : je X 42 130 L [] σ = some (none, σ) := je_ret (show jm_fe 42 130 = some (jk_ret) from rfl)
theorem r_M_raise_131 : je X 42 131 [l0, l1, l2, l3, some (.inl x)] S σ = je X 42 134 [l0, l1, l2, l3, some (.inl (x + (1)))] S σ := je_iinc (show jm_fe 42 131 = some (jk_iinc 4 (1)) from rfl) rfl
theorem r_M_raise_134 : je X 42 134 L S σ = je X 42 36 L S σ := je_goto (show jm_fe 42 134 = some (jk_goto 36) from rfl)
theorem r_M_raise_137 : je X 42 137 [some (.inr r), l1, l2, l3, l4] S σ = je X 42 138 [some (.inr r), l1, l2, l3, l4] (.inr r :: S) σ := je_aload (show jm_fe 42 137 = some (jk_aload 0 1) from rfl) rfl
theorem r_M_raise_138 : je X 42 138 L (v :: S) σ = je X 42 139 L (v :: v :: S) σ := je_dup (show jm_fe 42 138 = some (jk_dup) from rfl)
theorem r_M_raise_139 : je X 42 139 L (.inr (.inl (some a)) :: S) σ = je_v X 42 142 L S σ (jm_gf σ.1 a 9 22) := je_getf (show jm_fe 42 139 = some (jk_getf 9 22) from rfl)
theorem r_M_raise_142 : je X 42 142 L S σ = je X 42 143 L (.inl 1 :: S) σ := je_const (show jm_fe 42 142 = some (jk_const 1 1) from rfl)
theorem r_M_raise_143 : je X 42 143 L (.inl q :: .inl p :: S) σ = je X 42 144 L (.inl (p - q) :: S) σ := je_bin (show jm_fe 42 143 = some (jb_isub) from rfl)
theorem r_M_raise_144 : je X 42 144 L (v :: .inr (.inl (some a)) :: S) σ = je_h X 42 147 L S σ.2 (jm_pf σ.1 a 9 22 0 v) := je_putf (show jm_fe 42 144 = some (jk_putf 9 22 0) from rfl)
theorem r_M_raise_147 : je X 42 147 L S σ = je X 42 0 L S σ := je_goto (show jm_fe 42 147 = some (jk_goto 0) from rfl)
set_option maxRecDepth 20000 in
theorem r_M_raise_150 : je X 42 150 [some (.inr r), l1, l2, l3, l4] S σ = je X 42 151 [some (.inr r), l1, l2, l3, l4] (.inr r :: S) σ := je_aload (show jm_fe 42 150 = some (jk_aload 0 1) from rfl) rfl
set_option maxRecDepth 20000 in
theorem r_M_raise_151 : je X 42 151 L S σ = je X 42 152 L (.inl 1 :: S) σ := je_const (show jm_fe 42 151 = some (jk_const 1 1) from rfl)
set_option maxRecDepth 20000 in
theorem r_M_raise_152 : je X 42 152 [l0, some (.inl x), l2, l3, l4] S σ = je X 42 153 [l0, some (.inl x), l2, l3, l4] (.inl x :: S) σ := je_iload (show jm_fe 42 152 = some (jk_iload 1 1) from rfl) rfl
set_option maxRecDepth 20000 in
theorem r_M_raise_153 (hc : jm_cl σ.1 a = some 9) (h8 : S.length ≤ 8) : je X 42 153 L (v1 :: v0 :: .inr (.inl (some a)) :: S) σ = je_c X 42 156 L S (je X 33 0 [some (.inr (.inl (some a))), some v0, some v1] [] σ) := je_callV (as := [v0, v1]) (S' := S) (show jm_fe 42 153 = some (jk_callV 33 2 9) from rfl) rfl hc h8
set_option maxRecDepth 20000 in
theorem r_M_raise_156 : je X 42 156 L [] σ = some (none, σ) := je_ret (show jm_fe 42 156 = some (jk_ret) from rfl)
theorem r_M_sum_0 : je X 43 0 [some (.inr r), l1, l2, l3] S σ = je X 43 1 [some (.inr r), l1, l2, l3] (.inr r :: S) σ := je_aload (show jm_fe 43 0 = some (jk_aload 0 1) from rfl) rfl
theorem r_M_sum_1 : je X 43 1 L (.inr (.inl (some a)) :: S) σ = je_v X 43 4 L S σ (jm_gf σ.1 a 9 26) := je_getf (show jm_fe 43 1 = some (jk_getf 9 26) from rfl)
theorem r_M_sum_4 : je X 43 4 [some (.inr r), l1, l2, l3] S σ = je X 43 5 [some (.inr r), l1, l2, l3] (.inr r :: S) σ := je_aload (show jm_fe 43 4 = some (jk_aload 0 1) from rfl) rfl
theorem r_M_sum_5 : je X 43 5 L S σ = je X 43 6 L (.inl 0 :: S) σ := je_const (show jm_fe 43 5 = some (jk_const 0 1) from rfl)
theorem r_M_sum_6 (hc : jm_cl σ.1 a = some 9) (h8 : S.length ≤ 8) : je X 43 6 L (v0 :: .inr (.inl (some a)) :: S) σ = je_c X 43 9 L S (je X 35 0 [some (.inr (.inl (some a))), some v0] [] σ) := je_callV (as := [v0]) (S' := S) (show jm_fe 43 6 = some (jk_callV 35 1 9) from rfl) rfl hc h8
theorem r_M_sum_9 : je X 43 9 L (.inl p :: .inr (.inl (some a)) :: S) σ = je_i X 43 10 L S σ (jm_al σ.1 a 0 p) := je_ald (show jm_fe 43 9 = some (jk_ald 0) from rfl)
theorem r_M_sum_10 : je X 43 10 [l0, l1, l2, l3] (.inl x :: S) σ = je X 43 11 [l0, l1, some (.inl x), l3] S σ := je_istore (show jm_fe 43 10 = some (jk_istore 2 1) from rfl) (Nat.le_of_ble_eq_true rfl)
theorem r_M_sum_11 : je X 43 11 [some (.inr r), l1, l2, l3] S σ = je X 43 12 [some (.inr r), l1, l2, l3] (.inr r :: S) σ := je_aload (show jm_fe 43 11 = some (jk_aload 0 1) from rfl) rfl
theorem r_M_sum_12 : je X 43 12 L (.inr (.inl (some a)) :: S) σ = je_v X 43 15 L S σ (jm_gf σ.1 a 9 26) := je_getf (show jm_fe 43 12 = some (jk_getf 9 26) from rfl)
theorem r_M_sum_15 : je X 43 15 [some (.inr r), l1, l2, l3] S σ = je X 43 16 [some (.inr r), l1, l2, l3] (.inr r :: S) σ := je_aload (show jm_fe 43 15 = some (jk_aload 0 1) from rfl) rfl
theorem r_M_sum_16 : je X 43 16 L S σ = je X 43 17 L (.inl 1 :: S) σ := je_const (show jm_fe 43 16 = some (jk_const 1 1) from rfl)
theorem r_M_sum_17 (hc : jm_cl σ.1 a = some 9) (h8 : S.length ≤ 8) : je X 43 17 L (v0 :: .inr (.inl (some a)) :: S) σ = je_c X 43 20 L S (je X 35 0 [some (.inr (.inl (some a))), some v0] [] σ) := je_callV (as := [v0]) (S' := S) (show jm_fe 43 17 = some (jk_callV 35 1 9) from rfl) rfl hc h8
theorem r_M_sum_20 : je X 43 20 L (.inl p :: .inr (.inl (some a)) :: S) σ = je_i X 43 21 L S σ (jm_al σ.1 a 0 p) := je_ald (show jm_fe 43 20 = some (jk_ald 0) from rfl)
theorem r_M_sum_21 : je X 43 21 [l0, l1, l2, l3] (.inl x :: S) σ = je X 43 22 [l0, l1, l2, some (.inl x)] S σ := je_istore (show jm_fe 43 21 = some (jk_istore 3 1) from rfl) (Nat.le_of_ble_eq_true rfl)
theorem r_M_sum_22 : je X 43 22 [l0, some (.inl x), l2, l3] S σ = je X 43 23 [l0, some (.inl x), l2, l3] (.inl x :: S) σ := je_iload (show jm_fe 43 22 = some (jk_iload 1 1) from rfl) rfl
theorem r_M_sum_23 : je X 43 23 L S σ = je X 43 25 L (.inl 9 :: S) σ := je_const (show jm_fe 43 23 = some (jk_const (9) 2) from rfl)
theorem r_M_sum_25 : je X 43 25 L (.inl q :: .inl p :: S) σ = if p = q then je X 43 34 L S σ else je X 43 28 L S σ := je_icmp_eq (show jm_fe 43 25 = some (jk_icmp .eq 34) from rfl)
theorem r_M_sum_28 : je X 43 28 [l0, some (.inl x), l2, l3] S σ = je X 43 29 [l0, some (.inl x), l2, l3] (.inl x :: S) σ := je_iload (show jm_fe 43 28 = some (jk_iload 1 1) from rfl) rfl
theorem r_M_sum_29 : je X 43 29 L S σ = je X 43 31 L (.inl 10 :: S) σ := je_const (show jm_fe 43 29 = some (jk_const (10) 2) from rfl)
theorem r_M_sum_31 : je X 43 31 L (.inl q :: .inl p :: S) σ = if p = q then je X 43 34 L S σ else je X 43 44 L S σ := je_icmp_ne (show jm_fe 43 31 = some (jk_icmp .ne 44) from rfl)
theorem r_M_sum_34 : je X 43 34 [l0, l1, some (.inl x), l3] S σ = je X 43 35 [l0, l1, some (.inl x), l3] (.inl x :: S) σ := je_iload (show jm_fe 43 34 = some (jk_iload 2 1) from rfl) rfl
theorem r_M_sum_35 : je X 43 35 L (.inl p :: S) σ = if p = 0 then je X 43 38 L S σ else je X 43 44 L S σ := je_if_ne (show jm_fe 43 35 = some (jk_if .ne 44) from rfl)
theorem r_M_sum_38 : je X 43 38 [some (.inr r), l1, l2, l3] S σ = je X 43 39 [some (.inr r), l1, l2, l3] (.inr r :: S) σ := je_aload (show jm_fe 43 38 = some (jk_aload 0 1) from rfl) rfl
theorem r_M_sum_39 : je X 43 39 L S σ = je X 43 40 L (.inl 1 :: S) σ := je_const (show jm_fe 43 39 = some (jk_const 1 1) from rfl)
theorem r_M_sum_40 (hc : jm_cl σ.1 a = some 9) (h8 : S.length ≤ 8) : je X 43 40 L (v0 :: .inr (.inl (some a)) :: S) σ = je_c X 43 43 L S (je X 42 0 [some (.inr (.inl (some a))), some v0, none, none, none] [] σ) := je_callV (as := [v0]) (S' := S) (show jm_fe 43 40 = some (jk_callV 42 1 9) from rfl) rfl hc h8
theorem r_M_sum_43 : je X 43 43 L [] σ = some (none, σ) := je_ret (show jm_fe 43 43 = some (jk_ret) from rfl)
theorem r_M_sum_44 : je X 43 44 [some (.inr r), l1, l2, l3] S σ = je X 43 45 [some (.inr r), l1, l2, l3] (.inr r :: S) σ := je_aload (show jm_fe 43 44 = some (jk_aload 0 1) from rfl) rfl
theorem r_M_sum_45 : je X 43 45 L S σ = je X 43 46 L (.inl 2 :: S) σ := je_const (show jm_fe 43 45 = some (jk_const 2 1) from rfl)
theorem r_M_sum_46 (hc : jm_cl σ.1 a = some 9) (h8 : S.length ≤ 8) : je X 43 46 L (v0 :: .inr (.inl (some a)) :: S) σ = je_c X 43 49 L S (je X 36 0 [some (.inr (.inl (some a))), some v0] [] σ) := je_callV (as := [v0]) (S' := S) (show jm_fe 43 46 = some (jk_callV 36 1 9) from rfl) rfl hc h8
theorem r_M_sum_49 : je X 43 49 [some (.inr r), l1, l2, l3] S σ = je X 43 50 [some (.inr r), l1, l2, l3] (.inr r :: S) σ := je_aload (show jm_fe 43 49 = some (jk_aload 0 1) from rfl) rfl
theorem r_M_sum_50 : je X 43 50 [l0, some (.inl x), l2, l3] S σ = je X 43 51 [l0, some (.inl x), l2, l3] (.inl x :: S) σ := je_iload (show jm_fe 43 50 = some (jk_iload 1 1) from rfl) rfl
theorem r_M_sum_51 : je X 43 51 [l0, l1, l2, some (.inl x)] S σ = je X 43 52 [l0, l1, l2, some (.inl x)] (.inl x :: S) σ := je_iload (show jm_fe 43 51 = some (jk_iload 3 1) from rfl) rfl
theorem r_M_sum_52 : je X 43 52 [l0, l1, some (.inl x), l3] S σ = je X 43 53 [l0, l1, some (.inl x), l3] (.inl x :: S) σ := je_iload (show jm_fe 43 52 = some (jk_iload 2 1) from rfl) rfl
theorem r_M_sum_53 (h8 : S.length ≤ 8) : je X 43 53 L (.inl q :: .inl p :: .inl x :: S) σ = if (x = 9 ∨ x = 10) ∧ q = 0 then none else je X 43 56 L (.inl (jm_wk x p q) :: S) σ := je_work (show jm_fe 43 53 = some (jk_work) from rfl) h8
theorem r_M_sum_56 : je X 43 56 L S σ = je X 43 57 L (.inl 0 :: S) σ := je_const (show jm_fe 43 56 = some (jk_const 0 1) from rfl)
theorem r_M_sum_57 (hc : jm_cl σ.1 a = some 9) (h8 : S.length ≤ 8) : je X 43 57 L (v1 :: v0 :: .inr (.inl (some a)) :: S) σ = je_c X 43 60 L S (je X 34 0 [some (.inr (.inl (some a))), some v0, some v1, none] [] σ) := je_callV (as := [v0, v1]) (S' := S) (show jm_fe 43 57 = some (jk_callV 34 2 9) from rfl) rfl hc h8
theorem r_M_sum_60 : je X 43 60 [some (.inr r), l1, l2, l3] S σ = je X 43 61 [some (.inr r), l1, l2, l3] (.inr r :: S) σ := je_aload (show jm_fe 43 60 = some (jk_aload 0 1) from rfl) rfl
theorem r_M_sum_61 (hc : jm_cl σ.1 a = some 9) (h8 : S.length ≤ 8) : je X 43 61 L (.inr (.inl (some a)) :: S) σ = je_c X 43 64 L S (je X 37 0 [some (.inr (.inl (some a)))] [] σ) := je_callV (as := []) (S' := S) (show jm_fe 43 61 = some (jk_callV 37 0 9) from rfl) rfl hc h8
theorem r_M_sum_64 : je X 43 64 L [] σ = some (none, σ) := je_ret (show jm_fe 43 64 = some (jk_ret) from rfl)
theorem r_M_create_0 : je X 44 0 [some (.inr r), l1, l2] S σ = je X 44 1 [some (.inr r), l1, l2] (.inr r :: S) σ := je_aload (show jm_fe 44 0 = some (jk_aload 0 1) from rfl) rfl
theorem r_M_create_1 : je X 44 1 L (.inr (.inl (some a)) :: S) σ = je_v X 44 4 L S σ (jm_gf σ.1 a 9 26) := je_getf (show jm_fe 44 1 = some (jk_getf 9 26) from rfl)
theorem r_M_create_4 : je X 44 4 [some (.inr r), l1, l2] S σ = je X 44 5 [some (.inr r), l1, l2] (.inr r :: S) σ := je_aload (show jm_fe 44 4 = some (jk_aload 0 1) from rfl) rfl
theorem r_M_create_5 : je X 44 5 L S σ = je X 44 6 L (.inl 0 :: S) σ := je_const (show jm_fe 44 5 = some (jk_const 0 1) from rfl)
theorem r_M_create_6 (hc : jm_cl σ.1 a = some 9) (h8 : S.length ≤ 8) : je X 44 6 L (v0 :: .inr (.inl (some a)) :: S) σ = je_c X 44 9 L S (je X 35 0 [some (.inr (.inl (some a))), some v0] [] σ) := je_callV (as := [v0]) (S' := S) (show jm_fe 44 6 = some (jk_callV 35 1 9) from rfl) rfl hc h8
theorem r_M_create_9 : je X 44 9 L (.inl p :: .inr (.inl (some a)) :: S) σ = je_i X 44 10 L S σ (jm_al σ.1 a 0 p) := je_ald (show jm_fe 44 9 = some (jk_ald 0) from rfl)
theorem r_M_create_10 : je X 44 10 [l0, l1, l2] (.inl x :: S) σ = je X 44 11 [l0, some (.inl x), l2] S σ := je_istore (show jm_fe 44 10 = some (jk_istore 1 1) from rfl) (Nat.le_of_ble_eq_true rfl)
theorem r_M_create_11 : je X 44 11 [l0, some (.inl x), l2] S σ = je X 44 12 [l0, some (.inl x), l2] (.inl x :: S) σ := je_iload (show jm_fe 44 11 = some (jk_iload 1 1) from rfl) rfl
theorem r_M_create_12 : je X 44 12 L (.inl p :: S) σ = if p < 0 then je X 44 43 L S σ else je X 44 15 L S σ := je_if_lt (show jm_fe 44 12 = some (jk_if .lt 43) from rfl)
theorem r_M_create_15 : je X 44 15 [l0, some (.inl x), l2] S σ = je X 44 16 [l0, some (.inl x), l2] (.inl x :: S) σ := je_iload (show jm_fe 44 15 = some (jk_iload 1 1) from rfl) rfl
theorem r_M_create_16 : je X 44 16 L S σ = je X 44 18 L (.inl 64 :: S) σ := je_const (show jm_fe 44 16 = some (jk_const (64) 2) from rfl)
theorem r_M_create_18 : je X 44 18 L (.inl q :: .inl p :: S) σ = if q < p then je X 44 43 L S σ else je X 44 21 L S σ := je_icmp_gt (show jm_fe 44 18 = some (jk_icmp .gt 43) from rfl)
theorem r_M_create_21 : je X 44 21 [some (.inr r), l1, l2] S σ = je X 44 22 [some (.inr r), l1, l2] (.inr r :: S) σ := je_aload (show jm_fe 44 21 = some (jk_aload 0 1) from rfl) rfl
theorem r_M_create_22 : je X 44 22 L (.inr (.inl (some a)) :: S) σ = je_v X 44 25 L S σ (jm_gf σ.1 a 9 30) := je_getf (show jm_fe 44 22 = some (jk_getf 9 30) from rfl)
theorem r_M_create_25 : je X 44 25 L S σ = je X 44 28 L (.inl 500 :: S) σ := je_const (show jm_fe 44 25 = some (jk_const (500) 3) from rfl)
theorem r_M_create_28 : je X 44 28 L (.inl q :: .inl p :: S) σ = if p = q then je X 44 43 L S σ else je X 44 31 L S σ := je_icmp_eq (show jm_fe 44 28 = some (jk_icmp .eq 43) from rfl)
theorem r_M_create_31 : je X 44 31 [some (.inr r), l1, l2] S σ = je X 44 32 [some (.inr r), l1, l2] (.inr r :: S) σ := je_aload (show jm_fe 44 31 = some (jk_aload 0 1) from rfl) rfl
theorem r_M_create_32 : je X 44 32 L (.inr (.inl (some a)) :: S) σ = je_v X 44 35 L S σ (jm_gf σ.1 a 9 31) := je_getf (show jm_fe 44 32 = some (jk_getf 9 31) from rfl)
theorem r_M_create_35 : je X 44 35 [l0, some (.inl x), l2] S σ = je X 44 36 [l0, some (.inl x), l2] (.inl x :: S) σ := je_iload (show jm_fe 44 35 = some (jk_iload 1 1) from rfl) rfl
theorem r_M_create_36 : je X 44 36 L (.inl q :: .inl p :: S) σ = je X 44 37 L (.inl (p + q) :: S) σ := je_bin (show jm_fe 44 36 = some (jb_iadd) from rfl)
theorem r_M_create_37 : je X 44 37 L S σ = je X 44 40 L (.inl 1024 :: S) σ := je_const (show jm_fe 44 37 = some (jk_const (1024) 3) from rfl)
theorem r_M_create_40 : je X 44 40 L (.inl q :: .inl p :: S) σ = if p ≤ q then je X 44 49 L S σ else je X 44 43 L S σ := je_icmp_le (show jm_fe 44 40 = some (jk_icmp .le 49) from rfl)
theorem r_M_create_43 : je X 44 43 [some (.inr r), l1, l2] S σ = je X 44 44 [some (.inr r), l1, l2] (.inr r :: S) σ := je_aload (show jm_fe 44 43 = some (jk_aload 0 1) from rfl) rfl
theorem r_M_create_44 : je X 44 44 L S σ = je X 44 45 L (.inl 3 :: S) σ := je_const (show jm_fe 44 44 = some (jk_const 3 1) from rfl)
theorem r_M_create_45 (hc : jm_cl σ.1 a = some 9) (h8 : S.length ≤ 8) : je X 44 45 L (v0 :: .inr (.inl (some a)) :: S) σ = je_c X 44 48 L S (je X 42 0 [some (.inr (.inl (some a))), some v0, none, none, none] [] σ) := je_callV (as := [v0]) (S' := S) (show jm_fe 44 45 = some (jk_callV 42 1 9) from rfl) rfl hc h8
theorem r_M_create_48 : je X 44 48 L [] σ = some (none, σ) := je_ret (show jm_fe 44 48 = some (jk_ret) from rfl)
theorem r_M_create_49 : je X 44 49 [some (.inr r), l1, l2] S σ = je X 44 50 [some (.inr r), l1, l2] (.inr r :: S) σ := je_aload (show jm_fe 44 49 = some (jk_aload 0 1) from rfl) rfl
theorem r_M_create_50 : je X 44 50 L (v :: S) σ = je X 44 51 L (v :: v :: S) σ := je_dup (show jm_fe 44 50 = some (jk_dup) from rfl)
theorem r_M_create_51 : je X 44 51 L (.inr (.inl (some a)) :: S) σ = je_v X 44 54 L S σ (jm_gf σ.1 a 9 30) := je_getf (show jm_fe 44 51 = some (jk_getf 9 30) from rfl)
theorem r_M_create_54 : je X 44 54 L S σ = je X 44 55 L (.inl 1 :: S) σ := je_const (show jm_fe 44 54 = some (jk_const 1 1) from rfl)
theorem r_M_create_55 : je X 44 55 L (.inl q :: .inl p :: S) σ = je X 44 56 L (.inl (p + q) :: S) σ := je_bin (show jm_fe 44 55 = some (jb_iadd) from rfl)
theorem r_M_create_56 : je X 44 56 L (v :: .inr (.inl (some a)) :: S) σ = je_h X 44 59 L S σ.2 (jm_pf σ.1 a 9 30 0 v) := je_putf (show jm_fe 44 56 = some (jk_putf 9 30 0) from rfl)
theorem r_M_create_59 : je X 44 59 [some (.inr r), l1, l2] S σ = je X 44 60 [some (.inr r), l1, l2] (.inr r :: S) σ := je_aload (show jm_fe 44 59 = some (jk_aload 0 1) from rfl) rfl
theorem r_M_create_60 : je X 44 60 L (.inr (.inl (some a)) :: S) σ = je_v X 44 63 L S σ (jm_gf σ.1 a 9 32) := je_getf (show jm_fe 44 60 = some (jk_getf 9 32) from rfl)
theorem r_M_create_63 : je X 44 63 [some (.inr r), l1, l2] S σ = je X 44 64 [some (.inr r), l1, l2] (.inr r :: S) σ := je_aload (show jm_fe 44 63 = some (jk_aload 0 1) from rfl) rfl
theorem r_M_create_64 : je X 44 64 L (.inr (.inl (some a)) :: S) σ = je_v X 44 67 L S σ (jm_gf σ.1 a 9 30) := je_getf (show jm_fe 44 64 = some (jk_getf 9 30) from rfl)
theorem r_M_create_67 : je X 44 67 [some (.inr r), l1, l2] S σ = je X 44 68 [some (.inr r), l1, l2] (.inr r :: S) σ := je_aload (show jm_fe 44 67 = some (jk_aload 0 1) from rfl) rfl
theorem r_M_create_68 : je X 44 68 L (.inr (.inl (some a)) :: S) σ = je_v X 44 71 L S σ (jm_gf σ.1 a 9 31) := je_getf (show jm_fe 44 68 = some (jk_getf 9 31) from rfl)
theorem r_M_create_71 : je X 44 71 L (.inl q :: .inl p :: .inr (.inl (some a)) :: S) σ = je_h X 44 72 L S σ.2 (jm_as σ.1 a 0 p q) := je_iast (show jm_fe 44 71 = some (jk_iast) from rfl)
theorem r_M_create_72 : je X 44 72 [some (.inr r), l1, l2] S σ = je X 44 73 [some (.inr r), l1, l2] (.inr r :: S) σ := je_aload (show jm_fe 44 72 = some (jk_aload 0 1) from rfl) rfl
theorem r_M_create_73 : je X 44 73 L (.inr (.inl (some a)) :: S) σ = je_v X 44 76 L S σ (jm_gf σ.1 a 9 33) := je_getf (show jm_fe 44 73 = some (jk_getf 9 33) from rfl)
theorem r_M_create_76 : je X 44 76 [some (.inr r), l1, l2] S σ = je X 44 77 [some (.inr r), l1, l2] (.inr r :: S) σ := je_aload (show jm_fe 44 76 = some (jk_aload 0 1) from rfl) rfl
theorem r_M_create_77 : je X 44 77 L (.inr (.inl (some a)) :: S) σ = je_v X 44 80 L S σ (jm_gf σ.1 a 9 30) := je_getf (show jm_fe 44 77 = some (jk_getf 9 30) from rfl)
theorem r_M_create_80 : je X 44 80 [l0, some (.inl x), l2] S σ = je X 44 81 [l0, some (.inl x), l2] (.inl x :: S) σ := je_iload (show jm_fe 44 80 = some (jk_iload 1 1) from rfl) rfl
theorem r_M_create_81 : je X 44 81 L (.inl q :: .inl p :: .inr (.inl (some a)) :: S) σ = je_h X 44 82 L S σ.2 (jm_as σ.1 a 0 p q) := je_iast (show jm_fe 44 81 = some (jk_iast) from rfl)
theorem r_M_create_82 : je X 44 82 L S σ = je X 44 83 L (.inl 0 :: S) σ := je_const (show jm_fe 44 82 = some (jk_const 0 1) from rfl)
theorem r_M_create_83 : je X 44 83 [l0, l1, l2] (.inl x :: S) σ = je X 44 84 [l0, l1, some (.inl x)] S σ := je_istore (show jm_fe 44 83 = some (jk_istore 2 1) from rfl) (Nat.le_of_ble_eq_true rfl)
theorem r_M_create_84 : je X 44 84 [l0, l1, some (.inl x)] S σ = je X 44 85 [l0, l1, some (.inl x)] (.inl x :: S) σ := je_iload (show jm_fe 44 84 = some (jk_iload 2 1) from rfl) rfl
theorem r_M_create_85 : je X 44 85 [l0, some (.inl x), l2] S σ = je X 44 86 [l0, some (.inl x), l2] (.inl x :: S) σ := je_iload (show jm_fe 44 85 = some (jk_iload 1 1) from rfl) rfl
theorem r_M_create_86 : je X 44 86 L (.inl q :: .inl p :: S) σ = if q ≤ p then je X 44 115 L S σ else je X 44 89 L S σ := je_icmp_ge (show jm_fe 44 86 = some (jk_icmp .ge 115) from rfl)
theorem r_M_create_89 : je X 44 89 [some (.inr r), l1, l2] S σ = je X 44 90 [some (.inr r), l1, l2] (.inr r :: S) σ := je_aload (show jm_fe 44 89 = some (jk_aload 0 1) from rfl) rfl
theorem r_M_create_90 : je X 44 90 L (.inr (.inl (some a)) :: S) σ = je_v X 44 93 L S σ (jm_gf σ.1 a 9 34) := je_getf (show jm_fe 44 90 = some (jk_getf 9 34) from rfl)
theorem r_M_create_93 : je X 44 93 [some (.inr r), l1, l2] S σ = je X 44 94 [some (.inr r), l1, l2] (.inr r :: S) σ := je_aload (show jm_fe 44 93 = some (jk_aload 0 1) from rfl) rfl
theorem r_M_create_94 : je X 44 94 L (.inr (.inl (some a)) :: S) σ = je_v X 44 97 L S σ (jm_gf σ.1 a 9 31) := je_getf (show jm_fe 44 94 = some (jk_getf 9 31) from rfl)
theorem r_M_create_97 : je X 44 97 L S σ = je X 44 98 L (.inl 0 :: S) σ := je_const (show jm_fe 44 97 = some (jk_const 0 1) from rfl)
theorem r_M_create_98 : je X 44 98 L (.inl q :: .inl p :: .inr (.inl (some a)) :: S) σ = je_h X 44 99 L S σ.2 (jm_as σ.1 a 0 p q) := je_iast (show jm_fe 44 98 = some (jk_iast) from rfl)
theorem r_M_create_99 : je X 44 99 [some (.inr r), l1, l2] S σ = je X 44 100 [some (.inr r), l1, l2] (.inr r :: S) σ := je_aload (show jm_fe 44 99 = some (jk_aload 0 1) from rfl) rfl
theorem r_M_create_100 : je X 44 100 L (v :: S) σ = je X 44 101 L (v :: v :: S) σ := je_dup (show jm_fe 44 100 = some (jk_dup) from rfl)
theorem r_M_create_101 : je X 44 101 L (.inr (.inl (some a)) :: S) σ = je_v X 44 104 L S σ (jm_gf σ.1 a 9 31) := je_getf (show jm_fe 44 101 = some (jk_getf 9 31) from rfl)
theorem r_M_create_104 : je X 44 104 L S σ = je X 44 105 L (.inl 1 :: S) σ := je_const (show jm_fe 44 104 = some (jk_const 1 1) from rfl)
theorem r_M_create_105 : je X 44 105 L (.inl q :: .inl p :: S) σ = je X 44 106 L (.inl (p + q) :: S) σ := je_bin (show jm_fe 44 105 = some (jb_iadd) from rfl)
theorem r_M_create_106 : je X 44 106 L (v :: .inr (.inl (some a)) :: S) σ = je_h X 44 109 L S σ.2 (jm_pf σ.1 a 9 31 0 v) := je_putf (show jm_fe 44 106 = some (jk_putf 9 31 0) from rfl)
theorem r_M_create_109 : je X 44 109 [l0, l1, some (.inl x)] S σ = je X 44 112 [l0, l1, some (.inl (x + (1)))] S σ := je_iinc (show jm_fe 44 109 = some (jk_iinc 2 (1)) from rfl) rfl
theorem r_M_create_112 : je X 44 112 L S σ = je X 44 84 L S σ := je_goto (show jm_fe 44 112 = some (jk_goto 84) from rfl)
theorem r_M_create_115 : je X 44 115 [some (.inr r), l1, l2] S σ = je X 44 116 [some (.inr r), l1, l2] (.inr r :: S) σ := je_aload (show jm_fe 44 115 = some (jk_aload 0 1) from rfl) rfl
theorem r_M_create_116 : je X 44 116 L S σ = je X 44 117 L (.inl 1 :: S) σ := je_const (show jm_fe 44 116 = some (jk_const 1 1) from rfl)
theorem r_M_create_117 (hc : jm_cl σ.1 a = some 9) (h8 : S.length ≤ 8) : je X 44 117 L (v0 :: .inr (.inl (some a)) :: S) σ = je_c X 44 120 L S (je X 36 0 [some (.inr (.inl (some a))), some v0] [] σ) := je_callV (as := [v0]) (S' := S) (show jm_fe 44 117 = some (jk_callV 36 1 9) from rfl) rfl hc h8
theorem r_M_create_120 : je X 44 120 [some (.inr r), l1, l2] S σ = je X 44 121 [some (.inr r), l1, l2] (.inr r :: S) σ := je_aload (show jm_fe 44 120 = some (jk_aload 0 1) from rfl) rfl
theorem r_M_create_121 : je X 44 121 L S σ = je X 44 122 L (.inl 0 :: S) σ := je_const (show jm_fe 44 121 = some (jk_const 0 1) from rfl)
theorem r_M_create_122 : je X 44 122 [some (.inr r), l1, l2] S σ = je X 44 123 [some (.inr r), l1, l2] (.inr r :: S) σ := je_aload (show jm_fe 44 122 = some (jk_aload 0 1) from rfl) rfl
theorem r_M_create_123 : je X 44 123 L (.inr (.inl (some a)) :: S) σ = je_v X 44 126 L S σ (jm_gf σ.1 a 9 30) := je_getf (show jm_fe 44 123 = some (jk_getf 9 30) from rfl)
theorem r_M_create_126 (hc : jm_cl σ.1 a = some 9) (h8 : S.length ≤ 8) : je X 44 126 L (v1 :: v0 :: .inr (.inl (some a)) :: S) σ = je_c X 44 129 L S (je X 34 0 [some (.inr (.inl (some a))), some v0, some v1, none] [] σ) := je_callV (as := [v0, v1]) (S' := S) (show jm_fe 44 126 = some (jk_callV 34 2 9) from rfl) rfl hc h8
theorem r_M_create_129 : je X 44 129 [some (.inr r), l1, l2] S σ = je X 44 130 [some (.inr r), l1, l2] (.inr r :: S) σ := je_aload (show jm_fe 44 129 = some (jk_aload 0 1) from rfl) rfl
theorem r_M_create_130 (hc : jm_cl σ.1 a = some 9) (h8 : S.length ≤ 8) : je X 44 130 L (.inr (.inl (some a)) :: S) σ = je_c X 44 133 L S (je X 37 0 [some (.inr (.inl (some a)))] [] σ) := je_callV (as := []) (S' := S) (show jm_fe 44 130 = some (jk_callV 37 0 9) from rfl) rfl hc h8
theorem r_M_create_133 : je X 44 133 L [] σ = some (none, σ) := je_ret (show jm_fe 44 133 = some (jk_ret) from rfl)
theorem r_M_reach_0 : je X 45 0 [some (.inr r), l1, l2, l3] S σ = je X 45 1 [some (.inr r), l1, l2, l3] (.inr r :: S) σ := je_aload (show jm_fe 45 0 = some (jk_aload 0 1) from rfl) rfl
theorem r_M_reach_1 : je X 45 1 L (.inr (.inl (some a)) :: S) σ = je_v X 45 4 L S σ (jm_gf σ.1 a 9 26) := je_getf (show jm_fe 45 1 = some (jk_getf 9 26) from rfl)
theorem r_M_reach_4 : je X 45 4 [some (.inr r), l1, l2, l3] S σ = je X 45 5 [some (.inr r), l1, l2, l3] (.inr r :: S) σ := je_aload (show jm_fe 45 4 = some (jk_aload 0 1) from rfl) rfl
theorem r_M_reach_5 : je X 45 5 [l0, some (.inl x), l2, l3] S σ = je X 45 6 [l0, some (.inl x), l2, l3] (.inl x :: S) σ := je_iload (show jm_fe 45 5 = some (jk_iload 1 1) from rfl) rfl
theorem r_M_reach_6 : je X 45 6 L (.inl p :: S) σ = if p = 0 then je X 45 13 L S σ else je X 45 9 L S σ := je_if_eq (show jm_fe 45 6 = some (jk_if .eq 13) from rfl)
theorem r_M_reach_9 : je X 45 9 L S σ = je X 45 10 L (.inl 1 :: S) σ := je_const (show jm_fe 45 9 = some (jk_const 1 1) from rfl)
theorem r_M_reach_10 : je X 45 10 L S σ = je X 45 14 L S σ := je_goto (show jm_fe 45 10 = some (jk_goto 14) from rfl)
theorem r_M_reach_13 : je X 45 13 L S σ = je X 45 14 L (.inl 0 :: S) σ := je_const (show jm_fe 45 13 = some (jk_const 0 1) from rfl)
theorem r_M_reach_14 (hc : jm_cl σ.1 a = some 9) (h8 : S.length ≤ 8) : je X 45 14 L (v0 :: .inr (.inl (some a)) :: S) σ = je_c X 45 17 L S (je X 35 0 [some (.inr (.inl (some a))), some v0] [] σ) := je_callV (as := [v0]) (S' := S) (show jm_fe 45 14 = some (jk_callV 35 1 9) from rfl) rfl hc h8
theorem r_M_reach_17 : je X 45 17 L (.inl p :: .inr (.inl (some a)) :: S) σ = je_i X 45 18 L S σ (jm_al σ.1 a 0 p) := je_ald (show jm_fe 45 17 = some (jk_ald 0) from rfl)
theorem r_M_reach_18 : je X 45 18 [l0, l1, l2, l3] (.inl x :: S) σ = je X 45 19 [l0, l1, some (.inl x), l3] S σ := je_istore (show jm_fe 45 18 = some (jk_istore 2 1) from rfl) (Nat.le_of_ble_eq_true rfl)
theorem r_M_reach_19 : je X 45 19 [some (.inr r), l1, l2, l3] S σ = je X 45 20 [some (.inr r), l1, l2, l3] (.inr r :: S) σ := je_aload (show jm_fe 45 19 = some (jk_aload 0 1) from rfl) rfl
theorem r_M_reach_20 : je X 45 20 L (.inr (.inl (some a)) :: S) σ = je_v X 45 23 L S σ (jm_gf σ.1 a 9 27) := je_getf (show jm_fe 45 20 = some (jk_getf 9 27) from rfl)
theorem r_M_reach_23 : je X 45 23 [some (.inr r), l1, l2, l3] S σ = je X 45 24 [some (.inr r), l1, l2, l3] (.inr r :: S) σ := je_aload (show jm_fe 45 23 = some (jk_aload 0 1) from rfl) rfl
theorem r_M_reach_24 : je X 45 24 [l0, some (.inl x), l2, l3] S σ = je X 45 25 [l0, some (.inl x), l2, l3] (.inl x :: S) σ := je_iload (show jm_fe 45 24 = some (jk_iload 1 1) from rfl) rfl
theorem r_M_reach_25 : je X 45 25 L (.inl p :: S) σ = if p = 0 then je X 45 32 L S σ else je X 45 28 L S σ := je_if_eq (show jm_fe 45 25 = some (jk_if .eq 32) from rfl)
theorem r_M_reach_28 : je X 45 28 L S σ = je X 45 29 L (.inl 2 :: S) σ := je_const (show jm_fe 45 28 = some (jk_const 2 1) from rfl)
theorem r_M_reach_29 : je X 45 29 L S σ = je X 45 33 L S σ := je_goto (show jm_fe 45 29 = some (jk_goto 33) from rfl)
theorem r_M_reach_32 : je X 45 32 L S σ = je X 45 33 L (.inl 1 :: S) σ := je_const (show jm_fe 45 32 = some (jk_const 1 1) from rfl)
theorem r_M_reach_33 (hc : jm_cl σ.1 a = some 9) (h8 : S.length ≤ 8) : je X 45 33 L (v0 :: .inr (.inl (some a)) :: S) σ = je_c X 45 36 L S (je X 35 0 [some (.inr (.inl (some a))), some v0] [] σ) := je_callV (as := [v0]) (S' := S) (show jm_fe 45 33 = some (jk_callV 35 1 9) from rfl) rfl hc h8
theorem r_M_reach_36 : je X 45 36 L (.inl p :: .inr (.inl (some a)) :: S) σ = je_i X 45 37 L S σ (jm_al σ.1 a 0 p) := je_ald (show jm_fe 45 36 = some (jk_ald 0) from rfl)
theorem r_M_reach_37 : je X 45 37 [l0, l1, l2, l3] (.inl x :: S) σ = je X 45 38 [l0, l1, l2, some (.inl x)] S σ := je_istore (show jm_fe 45 37 = some (jk_istore 3 1) from rfl) (Nat.le_of_ble_eq_true rfl)
theorem r_M_reach_38 : je X 45 38 [l0, l1, some (.inl x), l3] S σ = je X 45 39 [l0, l1, some (.inl x), l3] (.inl x :: S) σ := je_iload (show jm_fe 45 38 = some (jk_iload 2 1) from rfl) rfl
theorem r_M_reach_39 : je X 45 39 L (.inl p :: S) σ = if p < 0 then je X 45 52 L S σ else je X 45 42 L S σ := je_if_lt (show jm_fe 45 39 = some (jk_if .lt 52) from rfl)
theorem r_M_reach_42 : je X 45 42 [l0, l1, some (.inl x), l3] S σ = je X 45 43 [l0, l1, some (.inl x), l3] (.inl x :: S) σ := je_iload (show jm_fe 45 42 = some (jk_iload 2 1) from rfl) rfl
theorem r_M_reach_43 : je X 45 43 [some (.inr r), l1, l2, l3] S σ = je X 45 44 [some (.inr r), l1, l2, l3] (.inr r :: S) σ := je_aload (show jm_fe 45 43 = some (jk_aload 0 1) from rfl) rfl
theorem r_M_reach_44 : je X 45 44 L (.inr (.inl (some a)) :: S) σ = je_v X 45 47 L S σ (jm_gf σ.1 a 9 33) := je_getf (show jm_fe 45 44 = some (jk_getf 9 33) from rfl)
theorem r_M_reach_47 : je X 45 47 [l0, l1, l2, some (.inl x)] S σ = je X 45 48 [l0, l1, l2, some (.inl x)] (.inl x :: S) σ := je_iload (show jm_fe 45 47 = some (jk_iload 3 1) from rfl) rfl
theorem r_M_reach_48 : je X 45 48 L (.inl p :: .inr (.inl (some a)) :: S) σ = je_i X 45 49 L S σ (jm_al σ.1 a 0 p) := je_ald (show jm_fe 45 48 = some (jk_ald 0) from rfl)
theorem r_M_reach_49 : je X 45 49 L (.inl q :: .inl p :: S) σ = if p < q then je X 45 58 L S σ else je X 45 52 L S σ := je_icmp_lt (show jm_fe 45 49 = some (jk_icmp .lt 58) from rfl)
theorem r_M_reach_52 : je X 45 52 [some (.inr r), l1, l2, l3] S σ = je X 45 53 [some (.inr r), l1, l2, l3] (.inr r :: S) σ := je_aload (show jm_fe 45 52 = some (jk_aload 0 1) from rfl) rfl
theorem r_M_reach_53 : je X 45 53 L S σ = je X 45 54 L (.inl 2 :: S) σ := je_const (show jm_fe 45 53 = some (jk_const 2 1) from rfl)
theorem r_M_reach_54 (hc : jm_cl σ.1 a = some 9) (h8 : S.length ≤ 8) : je X 45 54 L (v0 :: .inr (.inl (some a)) :: S) σ = je_c X 45 57 L S (je X 42 0 [some (.inr (.inl (some a))), some v0, none, none, none] [] σ) := je_callV (as := [v0]) (S' := S) (show jm_fe 45 54 = some (jk_callV 42 1 9) from rfl) rfl hc h8
theorem r_M_reach_57 : je X 45 57 L [] σ = some (none, σ) := je_ret (show jm_fe 45 57 = some (jk_ret) from rfl)
theorem r_M_reach_58 : je X 45 58 [l0, some (.inl x), l2, l3] S σ = je X 45 59 [l0, some (.inl x), l2, l3] (.inl x :: S) σ := je_iload (show jm_fe 45 58 = some (jk_iload 1 1) from rfl) rfl
theorem r_M_reach_59 : je X 45 59 L (.inl p :: S) σ = if p = 0 then je X 45 93 L S σ else je X 45 62 L S σ := je_if_eq (show jm_fe 45 59 = some (jk_if .eq 93) from rfl)
theorem r_M_reach_62 : je X 45 62 [some (.inr r), l1, l2, l3] S σ = je X 45 63 [some (.inr r), l1, l2, l3] (.inr r :: S) σ := je_aload (show jm_fe 45 62 = some (jk_aload 0 1) from rfl) rfl
theorem r_M_reach_63 : je X 45 63 L (.inr (.inl (some a)) :: S) σ = je_v X 45 66 L S σ (jm_gf σ.1 a 9 34) := je_getf (show jm_fe 45 63 = some (jk_getf 9 34) from rfl)
theorem r_M_reach_66 : je X 45 66 [some (.inr r), l1, l2, l3] S σ = je X 45 67 [some (.inr r), l1, l2, l3] (.inr r :: S) σ := je_aload (show jm_fe 45 66 = some (jk_aload 0 1) from rfl) rfl
theorem r_M_reach_67 : je X 45 67 L (.inr (.inl (some a)) :: S) σ = je_v X 45 70 L S σ (jm_gf σ.1 a 9 32) := je_getf (show jm_fe 45 67 = some (jk_getf 9 32) from rfl)
theorem r_M_reach_70 : je X 45 70 [l0, l1, l2, some (.inl x)] S σ = je X 45 71 [l0, l1, l2, some (.inl x)] (.inl x :: S) σ := je_iload (show jm_fe 45 70 = some (jk_iload 3 1) from rfl) rfl
theorem r_M_reach_71 : je X 45 71 L (.inl p :: .inr (.inl (some a)) :: S) σ = je_i X 45 72 L S σ (jm_al σ.1 a 0 p) := je_ald (show jm_fe 45 71 = some (jk_ald 0) from rfl)
theorem r_M_reach_72 : je X 45 72 [l0, l1, some (.inl x), l3] S σ = je X 45 73 [l0, l1, some (.inl x), l3] (.inl x :: S) σ := je_iload (show jm_fe 45 72 = some (jk_iload 2 1) from rfl) rfl
theorem r_M_reach_73 : je X 45 73 L (.inl q :: .inl p :: S) σ = je X 45 74 L (.inl (p + q) :: S) σ := je_bin (show jm_fe 45 73 = some (jb_iadd) from rfl)
theorem r_M_reach_74 : je X 45 74 [some (.inr r), l1, l2, l3] S σ = je X 45 75 [some (.inr r), l1, l2, l3] (.inr r :: S) σ := je_aload (show jm_fe 45 74 = some (jk_aload 0 1) from rfl) rfl
theorem r_M_reach_75 : je X 45 75 L (.inr (.inl (some a)) :: S) σ = je_v X 45 78 L S σ (jm_gf σ.1 a 9 26) := je_getf (show jm_fe 45 75 = some (jk_getf 9 26) from rfl)
theorem r_M_reach_78 : je X 45 78 [some (.inr r), l1, l2, l3] S σ = je X 45 79 [some (.inr r), l1, l2, l3] (.inr r :: S) σ := je_aload (show jm_fe 45 78 = some (jk_aload 0 1) from rfl) rfl
theorem r_M_reach_79 : je X 45 79 L S σ = je X 45 80 L (.inl 0 :: S) σ := je_const (show jm_fe 45 79 = some (jk_const 0 1) from rfl)
theorem r_M_reach_80 (hc : jm_cl σ.1 a = some 9) (h8 : S.length ≤ 8) : je X 45 80 L (v0 :: .inr (.inl (some a)) :: S) σ = je_c X 45 83 L S (je X 35 0 [some (.inr (.inl (some a))), some v0] [] σ) := je_callV (as := [v0]) (S' := S) (show jm_fe 45 80 = some (jk_callV 35 1 9) from rfl) rfl hc h8
theorem r_M_reach_83 : je X 45 83 L (.inl p :: .inr (.inl (some a)) :: S) σ = je_i X 45 84 L S σ (jm_al σ.1 a 0 p) := je_ald (show jm_fe 45 83 = some (jk_ald 0) from rfl)
theorem r_M_reach_84 : je X 45 84 L (.inl q :: .inl p :: .inr (.inl (some a)) :: S) σ = je_h X 45 85 L S σ.2 (jm_as σ.1 a 0 p q) := je_iast (show jm_fe 45 84 = some (jk_iast) from rfl)
theorem r_M_reach_85 : je X 45 85 [some (.inr r), l1, l2, l3] S σ = je X 45 86 [some (.inr r), l1, l2, l3] (.inr r :: S) σ := je_aload (show jm_fe 45 85 = some (jk_aload 0 1) from rfl) rfl
theorem r_M_reach_86 : je X 45 86 L S σ = je X 45 87 L (.inl 3 :: S) σ := je_const (show jm_fe 45 86 = some (jk_const 3 1) from rfl)
theorem r_M_reach_87 (hc : jm_cl σ.1 a = some 9) (h8 : S.length ≤ 8) : je X 45 87 L (v0 :: .inr (.inl (some a)) :: S) σ = je_c X 45 90 L S (je X 36 0 [some (.inr (.inl (some a))), some v0] [] σ) := je_callV (as := [v0]) (S' := S) (show jm_fe 45 87 = some (jk_callV 36 1 9) from rfl) rfl hc h8
theorem r_M_reach_90 : je X 45 90 L S σ = je X 45 116 L S σ := je_goto (show jm_fe 45 90 = some (jk_goto 116) from rfl)
theorem r_M_reach_93 : je X 45 93 [some (.inr r), l1, l2, l3] S σ = je X 45 94 [some (.inr r), l1, l2, l3] (.inr r :: S) σ := je_aload (show jm_fe 45 93 = some (jk_aload 0 1) from rfl) rfl
theorem r_M_reach_94 : je X 45 94 L S σ = je X 45 95 L (.inl 2 :: S) σ := je_const (show jm_fe 45 94 = some (jk_const 2 1) from rfl)
theorem r_M_reach_95 (hc : jm_cl σ.1 a = some 9) (h8 : S.length ≤ 8) : je X 45 95 L (v0 :: .inr (.inl (some a)) :: S) σ = je_c X 45 98 L S (je X 36 0 [some (.inr (.inl (some a))), some v0] [] σ) := je_callV (as := [v0]) (S' := S) (show jm_fe 45 95 = some (jk_callV 36 1 9) from rfl) rfl hc h8
theorem r_M_reach_98 : je X 45 98 [some (.inr r), l1, l2, l3] S σ = je X 45 99 [some (.inr r), l1, l2, l3] (.inr r :: S) σ := je_aload (show jm_fe 45 98 = some (jk_aload 0 1) from rfl) rfl
theorem r_M_reach_99 : je X 45 99 [some (.inr r), l1, l2, l3] S σ = je X 45 100 [some (.inr r), l1, l2, l3] (.inr r :: S) σ := je_aload (show jm_fe 45 99 = some (jk_aload 0 1) from rfl) rfl
theorem r_M_reach_100 : je X 45 100 L (.inr (.inl (some a)) :: S) σ = je_v X 45 103 L S σ (jm_gf σ.1 a 9 34) := je_getf (show jm_fe 45 100 = some (jk_getf 9 34) from rfl)
theorem r_M_reach_103 : je X 45 103 [some (.inr r), l1, l2, l3] S σ = je X 45 104 [some (.inr r), l1, l2, l3] (.inr r :: S) σ := je_aload (show jm_fe 45 103 = some (jk_aload 0 1) from rfl) rfl
theorem r_M_reach_104 : je X 45 104 L (.inr (.inl (some a)) :: S) σ = je_v X 45 107 L S σ (jm_gf σ.1 a 9 32) := je_getf (show jm_fe 45 104 = some (jk_getf 9 32) from rfl)
theorem r_M_reach_107 : je X 45 107 [l0, l1, l2, some (.inl x)] S σ = je X 45 108 [l0, l1, l2, some (.inl x)] (.inl x :: S) σ := je_iload (show jm_fe 45 107 = some (jk_iload 3 1) from rfl) rfl
theorem r_M_reach_108 : je X 45 108 L (.inl p :: .inr (.inl (some a)) :: S) σ = je_i X 45 109 L S σ (jm_al σ.1 a 0 p) := je_ald (show jm_fe 45 108 = some (jk_ald 0) from rfl)
theorem r_M_reach_109 : je X 45 109 [l0, l1, some (.inl x), l3] S σ = je X 45 110 [l0, l1, some (.inl x), l3] (.inl x :: S) σ := je_iload (show jm_fe 45 109 = some (jk_iload 2 1) from rfl) rfl
theorem r_M_reach_110 : je X 45 110 L (.inl q :: .inl p :: S) σ = je X 45 111 L (.inl (p + q) :: S) σ := je_bin (show jm_fe 45 110 = some (jb_iadd) from rfl)
theorem r_M_reach_111 : je X 45 111 L (.inl p :: .inr (.inl (some a)) :: S) σ = je_i X 45 112 L S σ (jm_al σ.1 a 0 p) := je_ald (show jm_fe 45 111 = some (jk_ald 0) from rfl)
theorem r_M_reach_112 : je X 45 112 L S σ = je X 45 113 L (.inl 0 :: S) σ := je_const (show jm_fe 45 112 = some (jk_const 0 1) from rfl)
theorem r_M_reach_113 (hc : jm_cl σ.1 a = some 9) (h8 : S.length ≤ 8) : je X 45 113 L (v1 :: v0 :: .inr (.inl (some a)) :: S) σ = je_c X 45 116 L S (je X 34 0 [some (.inr (.inl (some a))), some v0, some v1, none] [] σ) := je_callV (as := [v0, v1]) (S' := S) (show jm_fe 45 113 = some (jk_callV 34 2 9) from rfl) rfl hc h8
theorem r_M_reach_116 : je X 45 116 [some (.inr r), l1, l2, l3] S σ = je X 45 117 [some (.inr r), l1, l2, l3] (.inr r :: S) σ := je_aload (show jm_fe 45 116 = some (jk_aload 0 1) from rfl) rfl
theorem r_M_reach_117 (hc : jm_cl σ.1 a = some 9) (h8 : S.length ≤ 8) : je X 45 117 L (.inr (.inl (some a)) :: S) σ = je_c X 45 120 L S (je X 37 0 [some (.inr (.inl (some a)))] [] σ) := je_callV (as := []) (S' := S) (show jm_fe 45 117 = some (jk_callV 37 0 9) from rfl) rfl hc h8
theorem r_M_reach_120 : je X 45 120 L [] σ = some (none, σ) := je_ret (show jm_fe 45 120 = some (jk_ret) from rfl)
theorem r_M_callIn_0 : je X 46 0 [some (.inr r), l1, l2, l3, l4] S σ = je X 46 1 [some (.inr r), l1, l2, l3, l4] (.inr r :: S) σ := je_aload (show jm_fe 46 0 = some (jk_aload 0 1) from rfl) rfl
theorem r_M_callIn_1 : je X 46 1 L (.inr (.inl (some a)) :: S) σ = je_v X 46 4 L S σ (jm_gf σ.1 a 9 22) := je_getf (show jm_fe 46 1 = some (jk_getf 9 22) from rfl)
theorem r_M_callIn_4 : je X 46 4 L S σ = je X 46 6 L (.inl 20 :: S) σ := je_const (show jm_fe 46 4 = some (jk_const (20) 2) from rfl)
theorem r_M_callIn_6 : je X 46 6 L (.inl q :: .inl p :: S) σ = if p = q then je X 46 9 L S σ else je X 46 15 L S σ := je_icmp_ne (show jm_fe 46 6 = some (jk_icmp .ne 15) from rfl)
theorem r_M_callIn_9 : je X 46 9 [some (.inr r), l1, l2, l3, l4] S σ = je X 46 10 [some (.inr r), l1, l2, l3, l4] (.inr r :: S) σ := je_aload (show jm_fe 46 9 = some (jk_aload 0 1) from rfl) rfl
theorem r_M_callIn_10 : je X 46 10 L S σ = je X 46 11 L (.inl 4 :: S) σ := je_const (show jm_fe 46 10 = some (jk_const 4 1) from rfl)
theorem r_M_callIn_11 (hc : jm_cl σ.1 a = some 9) (h8 : S.length ≤ 8) : je X 46 11 L (v0 :: .inr (.inl (some a)) :: S) σ = je_c X 46 14 L S (je X 42 0 [some (.inr (.inl (some a))), some v0, none, none, none] [] σ) := je_callV (as := [v0]) (S' := S) (show jm_fe 46 11 = some (jk_callV 42 1 9) from rfl) rfl hc h8
theorem r_M_callIn_14 : je X 46 14 L [] σ = some (none, σ) := je_ret (show jm_fe 46 14 = some (jk_ret) from rfl)
theorem r_M_callIn_15 : je X 46 15 [some (.inr r), l1, l2, l3, l4] S σ = je X 46 16 [some (.inr r), l1, l2, l3, l4] (.inr r :: S) σ := je_aload (show jm_fe 46 15 = some (jk_aload 0 1) from rfl) rfl
theorem r_M_callIn_16 : je X 46 16 L (.inr (.inl (some a)) :: S) σ = je_v X 46 19 L S σ (jm_gf σ.1 a 9 22) := je_getf (show jm_fe 46 16 = some (jk_getf 9 22) from rfl)
theorem r_M_callIn_19 : je X 46 19 L S σ = je X 46 20 L (.inl 1 :: S) σ := je_const (show jm_fe 46 19 = some (jk_const 1 1) from rfl)
theorem r_M_callIn_20 : je X 46 20 L (.inl q :: .inl p :: S) σ = je X 46 21 L (.inl (p - q) :: S) σ := je_bin (show jm_fe 46 20 = some (jb_isub) from rfl)
theorem r_M_callIn_21 : je X 46 21 [l0, l1, l2, l3, l4] (.inl x :: S) σ = je X 46 22 [l0, l1, some (.inl x), l3, l4] S σ := je_istore (show jm_fe 46 21 = some (jk_istore 2 1) from rfl) (Nat.le_of_ble_eq_true rfl)
theorem r_M_callIn_22 : je X 46 22 [some (.inr r), l1, l2, l3, l4] S σ = je X 46 23 [some (.inr r), l1, l2, l3, l4] (.inr r :: S) σ := je_aload (show jm_fe 46 22 = some (jk_aload 0 1) from rfl) rfl
theorem r_M_callIn_23 : je X 46 23 [l0, some (.inl x), l2, l3, l4] S σ = je X 46 24 [l0, some (.inl x), l2, l3, l4] (.inl x :: S) σ := je_iload (show jm_fe 46 23 = some (jk_iload 1 1) from rfl) rfl
theorem r_M_callIn_24 (hc : jm_cl σ.1 a = some 9) (h8 : S.length ≤ 8) : je X 46 24 L (v0 :: .inr (.inl (some a)) :: S) σ = je_c X 46 27 L S (je X 32 0 [some (.inr (.inl (some a))), some v0, none] [] σ) := je_callV (as := [v0]) (S' := S) (show jm_fe 46 24 = some (jk_callV 32 1 9) from rfl) rfl hc h8
theorem r_M_callIn_27 : je X 46 27 L S σ = je X 46 28 L (.inl 0 :: S) σ := je_const (show jm_fe 46 27 = some (jk_const 0 1) from rfl)
theorem r_M_callIn_28 : je X 46 28 [l0, l1, l2, l3, l4] (.inl x :: S) σ = je X 46 29 [l0, l1, l2, some (.inl x), l4] S σ := je_istore (show jm_fe 46 28 = some (jk_istore 3 1) from rfl) (Nat.le_of_ble_eq_true rfl)
theorem r_M_callIn_29 : je X 46 29 [l0, l1, l2, some (.inl x), l4] S σ = je X 46 30 [l0, l1, l2, some (.inl x), l4] (.inl x :: S) σ := je_iload (show jm_fe 46 29 = some (jk_iload 3 1) from rfl) rfl
theorem r_M_callIn_30 : je X 46 30 [some (.inr r), l1, l2, l3, l4] S σ = je X 46 31 [some (.inr r), l1, l2, l3, l4] (.inr r :: S) σ := je_aload (show jm_fe 46 30 = some (jk_aload 0 1) from rfl) rfl
theorem r_M_callIn_31 : je X 46 31 L (.inr (.inl (some a)) :: S) σ = je_v X 46 34 L S σ (jm_gf σ.1 a 9 2) := je_getf (show jm_fe 46 31 = some (jk_getf 9 2) from rfl)
theorem r_M_callIn_34 : je X 46 34 [l0, some (.inl x), l2, l3, l4] S σ = je X 46 35 [l0, some (.inl x), l2, l3, l4] (.inl x :: S) σ := je_iload (show jm_fe 46 34 = some (jk_iload 1 1) from rfl) rfl
theorem r_M_callIn_35 : je X 46 35 L (.inl p :: .inr (.inl (some a)) :: S) σ = je_i X 46 36 L S σ (jm_al σ.1 a 0 p) := je_ald (show jm_fe 46 35 = some (jk_ald 0) from rfl)
theorem r_M_callIn_36 : je X 46 36 L (.inl q :: .inl p :: S) σ = if q ≤ p then je X 46 113 L S σ else je X 46 39 L S σ := je_icmp_ge (show jm_fe 46 36 = some (jk_icmp .ge 113) from rfl)
theorem r_M_callIn_39 : je X 46 39 L S σ = je X 46 41 L (.inl 16 :: S) σ := je_const (show jm_fe 46 39 = some (jk_const (16) 2) from rfl)
theorem r_M_callIn_41 : je X 46 41 [l0, l1, some (.inl x), l3, l4] S σ = je X 46 42 [l0, l1, some (.inl x), l3, l4] (.inl x :: S) σ := je_iload (show jm_fe 46 41 = some (jk_iload 2 1) from rfl) rfl
theorem r_M_callIn_42 : je X 46 42 L (.inl q :: .inl p :: S) σ = je X 46 43 L (.inl (p * q) :: S) σ := je_bin (show jm_fe 46 42 = some (jb_imul) from rfl)
theorem r_M_callIn_43 : je X 46 43 [some (.inr r), l1, l2, l3, l4] S σ = je X 46 44 [some (.inr r), l1, l2, l3, l4] (.inr r :: S) σ := je_aload (show jm_fe 46 43 = some (jk_aload 0 1) from rfl) rfl
theorem r_M_callIn_44 : je X 46 44 L (.inr (.inl (some a)) :: S) σ = je_v X 46 47 L S σ (jm_gf σ.1 a 9 25) := je_getf (show jm_fe 46 44 = some (jk_getf 9 25) from rfl)
theorem r_M_callIn_47 : je X 46 47 [l0, l1, some (.inl x), l3, l4] S σ = je X 46 48 [l0, l1, some (.inl x), l3, l4] (.inl x :: S) σ := je_iload (show jm_fe 46 47 = some (jk_iload 2 1) from rfl) rfl
theorem r_M_callIn_48 : je X 46 48 L (.inl p :: .inr (.inl (some a)) :: S) σ = je_i X 46 49 L S σ (jm_al σ.1 a 0 p) := je_ald (show jm_fe 46 48 = some (jk_ald 0) from rfl)
theorem r_M_callIn_49 : je X 46 49 L (.inl q :: .inl p :: S) σ = je X 46 50 L (.inl (p + q) :: S) σ := je_bin (show jm_fe 46 49 = some (jb_iadd) from rfl)
theorem r_M_callIn_50 : je X 46 50 [some (.inr r), l1, l2, l3, l4] S σ = je X 46 51 [some (.inr r), l1, l2, l3, l4] (.inr r :: S) σ := je_aload (show jm_fe 46 50 = some (jk_aload 0 1) from rfl) rfl
theorem r_M_callIn_51 : je X 46 51 L (.inr (.inl (some a)) :: S) σ = je_v X 46 54 L S σ (jm_gf σ.1 a 9 2) := je_getf (show jm_fe 46 51 = some (jk_getf 9 2) from rfl)
theorem r_M_callIn_54 : je X 46 54 [l0, some (.inl x), l2, l3, l4] S σ = je X 46 55 [l0, some (.inl x), l2, l3, l4] (.inl x :: S) σ := je_iload (show jm_fe 46 54 = some (jk_iload 1 1) from rfl) rfl
theorem r_M_callIn_55 : je X 46 55 L (.inl p :: .inr (.inl (some a)) :: S) σ = je_i X 46 56 L S σ (jm_al σ.1 a 0 p) := je_ald (show jm_fe 46 55 = some (jk_ald 0) from rfl)
theorem r_M_callIn_56 : je X 46 56 L (.inl q :: .inl p :: S) σ = je X 46 57 L (.inl (p - q) :: S) σ := je_bin (show jm_fe 46 56 = some (jb_isub) from rfl)
theorem r_M_callIn_57 : je X 46 57 [l0, l1, l2, some (.inl x), l4] S σ = je X 46 58 [l0, l1, l2, some (.inl x), l4] (.inl x :: S) σ := je_iload (show jm_fe 46 57 = some (jk_iload 3 1) from rfl) rfl
theorem r_M_callIn_58 : je X 46 58 L (.inl q :: .inl p :: S) σ = je X 46 59 L (.inl (p + q) :: S) σ := je_bin (show jm_fe 46 58 = some (jb_iadd) from rfl)
theorem r_M_callIn_59 : je X 46 59 [l0, l1, l2, l3, l4] (.inl x :: S) σ = je X 46 61 [l0, l1, l2, l3, some (.inl x)] S σ := je_istore (show jm_fe 46 59 = some (jk_istore 4 2) from rfl) (Nat.le_of_ble_eq_true rfl)
theorem r_M_callIn_61 : je X 46 61 [some (.inr r), l1, l2, l3, l4] S σ = je X 46 62 [some (.inr r), l1, l2, l3, l4] (.inr r :: S) σ := je_aload (show jm_fe 46 61 = some (jk_aload 0 1) from rfl) rfl
theorem r_M_callIn_62 : je X 46 62 L (.inr (.inl (some a)) :: S) σ = je_v X 46 65 L S σ (jm_gf σ.1 a 9 28) := je_getf (show jm_fe 46 62 = some (jk_getf 9 28) from rfl)
theorem r_M_callIn_65 : je X 46 65 L S σ = je X 46 67 L (.inl 8 :: S) σ := je_const (show jm_fe 46 65 = some (jk_const (8) 2) from rfl)
theorem r_M_callIn_67 : je X 46 67 [some (.inr r), l1, l2, l3, l4] S σ = je X 46 68 [some (.inr r), l1, l2, l3, l4] (.inr r :: S) σ := je_aload (show jm_fe 46 67 = some (jk_aload 0 1) from rfl) rfl
theorem r_M_callIn_68 : je X 46 68 L (.inr (.inl (some a)) :: S) σ = je_v X 46 71 L S σ (jm_gf σ.1 a 9 22) := je_getf (show jm_fe 46 68 = some (jk_getf 9 22) from rfl)
theorem r_M_callIn_71 : je X 46 71 L S σ = je X 46 72 L (.inl 1 :: S) σ := je_const (show jm_fe 46 71 = some (jk_const 1 1) from rfl)
theorem r_M_callIn_72 : je X 46 72 L (.inl q :: .inl p :: S) σ = je X 46 73 L (.inl (p - q) :: S) σ := je_bin (show jm_fe 46 72 = some (jb_isub) from rfl)
theorem r_M_callIn_73 : je X 46 73 L (.inl q :: .inl p :: S) σ = je X 46 74 L (.inl (p * q) :: S) σ := je_bin (show jm_fe 46 73 = some (jb_imul) from rfl)
theorem r_M_callIn_74 : je X 46 74 [l0, l1, l2, some (.inl x), l4] S σ = je X 46 75 [l0, l1, l2, some (.inl x), l4] (.inl x :: S) σ := je_iload (show jm_fe 46 74 = some (jk_iload 3 1) from rfl) rfl
theorem r_M_callIn_75 : je X 46 75 L (.inl q :: .inl p :: S) σ = je X 46 76 L (.inl (p + q) :: S) σ := je_bin (show jm_fe 46 75 = some (jb_iadd) from rfl)
theorem r_M_callIn_76 : je X 46 76 [some (.inr r), l1, l2, l3, l4] S σ = je X 46 77 [some (.inr r), l1, l2, l3, l4] (.inr r :: S) σ := je_aload (show jm_fe 46 76 = some (jk_aload 0 1) from rfl) rfl
theorem r_M_callIn_77 : je X 46 77 L (.inr (.inl (some a)) :: S) σ = je_v X 46 80 L S σ (jm_gf σ.1 a 9 26) := je_getf (show jm_fe 46 77 = some (jk_getf 9 26) from rfl)
theorem r_M_callIn_80 : je X 46 80 [l0, l1, l2, l3, some (.inl x)] S σ = je X 46 82 [l0, l1, l2, l3, some (.inl x)] (.inl x :: S) σ := je_iload (show jm_fe 46 80 = some (jk_iload 4 2) from rfl) rfl
theorem r_M_callIn_82 : je X 46 82 L (.inl p :: .inr (.inl (some a)) :: S) σ = je_i X 46 83 L S σ (jm_al σ.1 a 0 p) := je_ald (show jm_fe 46 82 = some (jk_ald 0) from rfl)
theorem r_M_callIn_83 : je X 46 83 L (.inl q :: .inl p :: .inr (.inl (some a)) :: S) σ = je_h X 46 84 L S σ.2 (jm_as σ.1 a 0 p q) := je_iast (show jm_fe 46 83 = some (jk_iast) from rfl)
theorem r_M_callIn_84 : je X 46 84 [some (.inr r), l1, l2, l3, l4] S σ = je X 46 85 [some (.inr r), l1, l2, l3, l4] (.inr r :: S) σ := je_aload (show jm_fe 46 84 = some (jk_aload 0 1) from rfl) rfl
theorem r_M_callIn_85 : je X 46 85 L (.inr (.inl (some a)) :: S) σ = je_v X 46 88 L S σ (jm_gf σ.1 a 9 29) := je_getf (show jm_fe 46 85 = some (jk_getf 9 29) from rfl)
theorem r_M_callIn_88 : je X 46 88 L S σ = je X 46 90 L (.inl 8 :: S) σ := je_const (show jm_fe 46 88 = some (jk_const (8) 2) from rfl)
theorem r_M_callIn_90 : je X 46 90 [some (.inr r), l1, l2, l3, l4] S σ = je X 46 91 [some (.inr r), l1, l2, l3, l4] (.inr r :: S) σ := je_aload (show jm_fe 46 90 = some (jk_aload 0 1) from rfl) rfl
theorem r_M_callIn_91 : je X 46 91 L (.inr (.inl (some a)) :: S) σ = je_v X 46 94 L S σ (jm_gf σ.1 a 9 22) := je_getf (show jm_fe 46 91 = some (jk_getf 9 22) from rfl)
theorem r_M_callIn_94 : je X 46 94 L S σ = je X 46 95 L (.inl 1 :: S) σ := je_const (show jm_fe 46 94 = some (jk_const 1 1) from rfl)
theorem r_M_callIn_95 : je X 46 95 L (.inl q :: .inl p :: S) σ = je X 46 96 L (.inl (p - q) :: S) σ := je_bin (show jm_fe 46 95 = some (jb_isub) from rfl)
theorem r_M_callIn_96 : je X 46 96 L (.inl q :: .inl p :: S) σ = je X 46 97 L (.inl (p * q) :: S) σ := je_bin (show jm_fe 46 96 = some (jb_imul) from rfl)
theorem r_M_callIn_97 : je X 46 97 [l0, l1, l2, some (.inl x), l4] S σ = je X 46 98 [l0, l1, l2, some (.inl x), l4] (.inl x :: S) σ := je_iload (show jm_fe 46 97 = some (jk_iload 3 1) from rfl) rfl
theorem r_M_callIn_98 : je X 46 98 L (.inl q :: .inl p :: S) σ = je X 46 99 L (.inl (p + q) :: S) σ := je_bin (show jm_fe 46 98 = some (jb_iadd) from rfl)
theorem r_M_callIn_99 : je X 46 99 [some (.inr r), l1, l2, l3, l4] S σ = je X 46 100 [some (.inr r), l1, l2, l3, l4] (.inr r :: S) σ := je_aload (show jm_fe 46 99 = some (jk_aload 0 1) from rfl) rfl
theorem r_M_callIn_100 : je X 46 100 L (.inr (.inl (some a)) :: S) σ = je_v X 46 103 L S σ (jm_gf σ.1 a 9 27) := je_getf (show jm_fe 46 100 = some (jk_getf 9 27) from rfl)
theorem r_M_callIn_103 : je X 46 103 [l0, l1, l2, l3, some (.inl x)] S σ = je X 46 105 [l0, l1, l2, l3, some (.inl x)] (.inl x :: S) σ := je_iload (show jm_fe 46 103 = some (jk_iload 4 2) from rfl) rfl
theorem r_M_callIn_105 : je X 46 105 L (.inl p :: .inr (.inl (some a)) :: S) σ = je_i X 46 106 L S σ (jm_al σ.1 a 0 p) := je_ald (show jm_fe 46 105 = some (jk_ald 0) from rfl)
theorem r_M_callIn_106 : je X 46 106 L (.inl q :: .inl p :: .inr (.inl (some a)) :: S) σ = je_h X 46 107 L S σ.2 (jm_as σ.1 a 0 p q) := je_iast (show jm_fe 46 106 = some (jk_iast) from rfl)
theorem r_M_callIn_107 : je X 46 107 [l0, l1, l2, some (.inl x), l4] S σ = je X 46 110 [l0, l1, l2, some (.inl (x + (1))), l4] S σ := je_iinc (show jm_fe 46 107 = some (jk_iinc 3 (1)) from rfl) rfl
theorem r_M_callIn_110 : je X 46 110 L S σ = je X 46 29 L S σ := je_goto (show jm_fe 46 110 = some (jk_goto 29) from rfl)
theorem r_M_callIn_113 : je X 46 113 [some (.inr r), l1, l2, l3, l4] S σ = je X 46 114 [some (.inr r), l1, l2, l3, l4] (.inr r :: S) σ := je_aload (show jm_fe 46 113 = some (jk_aload 0 1) from rfl) rfl
theorem r_M_callIn_114 : je X 46 114 L (.inr (.inl (some a)) :: S) σ = je_v X 46 117 L S σ (jm_gf σ.1 a 9 25) := je_getf (show jm_fe 46 114 = some (jk_getf 9 25) from rfl)
theorem r_M_callIn_117 : je X 46 117 [l0, l1, some (.inl x), l3, l4] S σ = je X 46 118 [l0, l1, some (.inl x), l3, l4] (.inl x :: S) σ := je_iload (show jm_fe 46 117 = some (jk_iload 2 1) from rfl) rfl
theorem r_M_callIn_118 : je X 46 118 L (v :: w :: S) σ = je X 46 119 L (v :: w :: v :: w :: S) σ := je_dup2 (show jm_fe 46 118 = some (jk_dup2) from rfl)
theorem r_M_callIn_119 : je X 46 119 L (.inl p :: .inr (.inl (some a)) :: S) σ = je_i X 46 120 L S σ (jm_al σ.1 a 0 p) := je_ald (show jm_fe 46 119 = some (jk_ald 0) from rfl)
theorem r_M_callIn_120 : je X 46 120 [some (.inr r), l1, l2, l3, l4] S σ = je X 46 121 [some (.inr r), l1, l2, l3, l4] (.inr r :: S) σ := je_aload (show jm_fe 46 120 = some (jk_aload 0 1) from rfl) rfl
theorem r_M_callIn_121 : je X 46 121 L (.inr (.inl (some a)) :: S) σ = je_v X 46 124 L S σ (jm_gf σ.1 a 9 2) := je_getf (show jm_fe 46 121 = some (jk_getf 9 2) from rfl)
theorem r_M_callIn_124 : je X 46 124 [l0, some (.inl x), l2, l3, l4] S σ = je X 46 125 [l0, some (.inl x), l2, l3, l4] (.inl x :: S) σ := je_iload (show jm_fe 46 124 = some (jk_iload 1 1) from rfl) rfl
theorem r_M_callIn_125 : je X 46 125 L (.inl p :: .inr (.inl (some a)) :: S) σ = je_i X 46 126 L S σ (jm_al σ.1 a 0 p) := je_ald (show jm_fe 46 125 = some (jk_ald 0) from rfl)
theorem r_M_callIn_126 : je X 46 126 L (.inl q :: .inl p :: S) σ = je X 46 127 L (.inl (p - q) :: S) σ := je_bin (show jm_fe 46 126 = some (jb_isub) from rfl)
theorem r_M_callIn_127 : je X 46 127 L (.inl q :: .inl p :: .inr (.inl (some a)) :: S) σ = je_h X 46 128 L S σ.2 (jm_as σ.1 a 0 p q) := je_iast (show jm_fe 46 127 = some (jk_iast) from rfl)
theorem r_M_callIn_128 : je X 46 128 L [] σ = some (none, σ) := je_ret (show jm_fe 46 128 = some (jk_ret) from rfl)
theorem r_M_callOut_0 : je X 47 0 [l0, some (.inl x), l2, l3, l4] S σ = je X 47 1 [l0, some (.inl x), l2, l3, l4] (.inl x :: S) σ := je_iload (show jm_fe 47 0 = some (jk_iload 1 1) from rfl) rfl
theorem r_M_callOut_1 : je X 47 1 L S σ = je X 47 2 L (.inl 4 :: S) σ := je_const (show jm_fe 47 1 = some (jk_const 4 1) from rfl)
theorem r_M_callOut_2 : je X 47 2 L (.inl q :: .inl p :: S) σ = if q = 0 then none else je X 47 3 L (.inl (p - p / q * q) :: S) σ := je_rem (show jm_fe 47 2 = some (jk_rem) from rfl)
theorem r_M_callOut_3 : je X 47 3 [l0, l1, l2, l3, l4] (.inl x :: S) σ = je X 47 4 [l0, l1, some (.inl x), l3, l4] S σ := je_istore (show jm_fe 47 3 = some (jk_istore 2 1) from rfl) (Nat.le_of_ble_eq_true rfl)
theorem r_M_callOut_4 : je X 47 4 [some (.inr r), l1, l2, l3, l4] S σ = je X 47 5 [some (.inr r), l1, l2, l3, l4] (.inr r :: S) σ := je_aload (show jm_fe 47 4 = some (jk_aload 0 1) from rfl) rfl
theorem r_M_callOut_5 : je X 47 5 L (.inr (.inl (some a)) :: S) σ = je_v X 47 8 L S σ (jm_gf σ.1 a 9 20) := je_getf (show jm_fe 47 5 = some (jk_getf 9 20) from rfl)
theorem r_M_callOut_8 : je X 47 8 [some (.inr r), l1, l2, l3, l4] S σ = je X 47 9 [some (.inr r), l1, l2, l3, l4] (.inr r :: S) σ := je_aload (show jm_fe 47 8 = some (jk_aload 0 1) from rfl) rfl
theorem r_M_callOut_9 : je X 47 9 L (.inr (.inl (some a)) :: S) σ = je_v X 47 12 L S σ (jm_gf σ.1 a 9 15) := je_getf (show jm_fe 47 9 = some (jk_getf 9 15) from rfl)
theorem r_M_callOut_12 : je X 47 12 L (.inl q :: .inl p :: S) σ = if q ≤ p then je X 47 40 L S σ else je X 47 15 L S σ := je_icmp_ge (show jm_fe 47 12 = some (jk_icmp .ge 40) from rfl)
theorem r_M_callOut_15 : je X 47 15 [some (.inr r), l1, l2, l3, l4] S σ = je X 47 16 [some (.inr r), l1, l2, l3, l4] (.inr r :: S) σ := je_aload (show jm_fe 47 15 = some (jk_aload 0 1) from rfl) rfl
theorem r_M_callOut_16 : je X 47 16 L (.inr (.inl (some a)) :: S) σ = je_v X 47 19 L S σ (jm_gf σ.1 a 9 14) := je_getf (show jm_fe 47 16 = some (jk_getf 9 14) from rfl)
theorem r_M_callOut_19 : je X 47 19 [some (.inr r), l1, l2, l3, l4] S σ = je X 47 20 [some (.inr r), l1, l2, l3, l4] (.inr r :: S) σ := je_aload (show jm_fe 47 19 = some (jk_aload 0 1) from rfl) rfl
theorem r_M_callOut_20 : je X 47 20 L (.inr (.inl (some a)) :: S) σ = je_v X 47 23 L S σ (jm_gf σ.1 a 9 20) := je_getf (show jm_fe 47 20 = some (jk_getf 9 20) from rfl)
theorem r_M_callOut_23 : je X 47 23 L S σ = je X 47 25 L (.inl 64 :: S) σ := je_const (show jm_fe 47 23 = some (jk_const (64) 2) from rfl)
theorem r_M_callOut_25 : je X 47 25 L (.inl q :: .inl p :: S) σ = if q ≤ p then je X 47 35 L S σ else je X 47 28 L S σ := je_icmp_ge (show jm_fe 47 25 = some (jk_icmp .ge 35) from rfl)
theorem r_M_callOut_28 : je X 47 28 [some (.inr r), l1, l2, l3, l4] S σ = je X 47 29 [some (.inr r), l1, l2, l3, l4] (.inr r :: S) σ := je_aload (show jm_fe 47 28 = some (jk_aload 0 1) from rfl) rfl
theorem r_M_callOut_29 : je X 47 29 L (.inr (.inl (some a)) :: S) σ = je_v X 47 32 L S σ (jm_gf σ.1 a 9 20) := je_getf (show jm_fe 47 29 = some (jk_getf 9 20) from rfl)
theorem r_M_callOut_32 : je X 47 32 L S σ = je X 47 36 L S σ := je_goto (show jm_fe 47 32 = some (jk_goto 36) from rfl)
theorem r_M_callOut_35 : je X 47 35 L S σ = je X 47 36 L (.inl 0 :: S) σ := je_const (show jm_fe 47 35 = some (jk_const 0 1) from rfl)
theorem r_M_callOut_36 : je X 47 36 L (.inl p :: .inr (.inl (some a)) :: S) σ = je_i X 47 37 L S σ (jm_al σ.1 a 0 p) := je_ald (show jm_fe 47 36 = some (jk_ald 0) from rfl)
theorem r_M_callOut_37 : je X 47 37 L S σ = je X 47 41 L S σ := je_goto (show jm_fe 47 37 = some (jk_goto 41) from rfl)
theorem r_M_callOut_40 : je X 47 40 L S σ = je X 47 41 L (.inl 0 :: S) σ := je_const (show jm_fe 47 40 = some (jk_const 0 1) from rfl)
theorem r_M_callOut_41 : je X 47 41 [l0, l1, l2, l3, l4] (.inl x :: S) σ = je X 47 42 [l0, l1, l2, some (.inl x), l4] S σ := je_istore (show jm_fe 47 41 = some (jk_istore 3 1) from rfl) (Nat.le_of_ble_eq_true rfl)
theorem r_M_callOut_42 : je X 47 42 [some (.inr r), l1, l2, l3, l4] S σ = je X 47 43 [some (.inr r), l1, l2, l3, l4] (.inr r :: S) σ := je_aload (show jm_fe 47 42 = some (jk_aload 0 1) from rfl) rfl
theorem r_M_callOut_43 : je X 47 43 L (.inr (.inl (some a)) :: S) σ = je_v X 47 46 L S σ (jm_gf σ.1 a 9 20) := je_getf (show jm_fe 47 43 = some (jk_getf 9 20) from rfl)
theorem r_M_callOut_46 : je X 47 46 L S σ = je X 47 48 L (.inl 64 :: S) σ := je_const (show jm_fe 47 46 = some (jk_const (64) 2) from rfl)
theorem r_M_callOut_48 : je X 47 48 L (.inl q :: .inl p :: S) σ = if q ≤ p then je X 47 133 L S σ else je X 47 51 L S σ := je_icmp_ge (show jm_fe 47 48 = some (jk_icmp .ge 133) from rfl)
theorem r_M_callOut_51 : je X 47 51 [some (.inr r), l1, l2, l3, l4] S σ = je X 47 52 [some (.inr r), l1, l2, l3, l4] (.inr r :: S) σ := je_aload (show jm_fe 47 51 = some (jk_aload 0 1) from rfl) rfl
theorem r_M_callOut_52 : je X 47 52 L (.inr (.inl (some a)) :: S) σ = je_v X 47 55 L S σ (jm_gf σ.1 a 9 35) := je_getf (show jm_fe 47 52 = some (jk_getf 9 35) from rfl)
theorem r_M_callOut_55 : je X 47 55 L S σ = je X 47 56 L (.inl 5 :: S) σ := je_const (show jm_fe 47 55 = some (jk_const 5 1) from rfl)
theorem r_M_callOut_56 : je X 47 56 [some (.inr r), l1, l2, l3, l4] S σ = je X 47 57 [some (.inr r), l1, l2, l3, l4] (.inr r :: S) σ := je_aload (show jm_fe 47 56 = some (jk_aload 0 1) from rfl) rfl
theorem r_M_callOut_57 : je X 47 57 L (.inr (.inl (some a)) :: S) σ = je_v X 47 60 L S σ (jm_gf σ.1 a 9 20) := je_getf (show jm_fe 47 57 = some (jk_getf 9 20) from rfl)
theorem r_M_callOut_60 : je X 47 60 L (.inl q :: .inl p :: S) σ = je X 47 61 L (.inl (p * q) :: S) σ := je_bin (show jm_fe 47 60 = some (jb_imul) from rfl)
theorem r_M_callOut_61 : je X 47 61 [l0, some (.inl x), l2, l3, l4] S σ = je X 47 62 [l0, some (.inl x), l2, l3, l4] (.inl x :: S) σ := je_iload (show jm_fe 47 61 = some (jk_iload 1 1) from rfl) rfl
theorem r_M_callOut_62 : je X 47 62 L (.inl q :: .inl p :: .inr (.inl (some a)) :: S) σ = je_h X 47 63 L S σ.2 (jm_as σ.1 a 0 p q) := je_iast (show jm_fe 47 62 = some (jk_iast) from rfl)
theorem r_M_callOut_63 : je X 47 63 L S σ = je X 47 64 L (.inl 0 :: S) σ := je_const (show jm_fe 47 63 = some (jk_const 0 1) from rfl)
theorem r_M_callOut_64 : je X 47 64 [l0, l1, l2, l3, l4] (.inl x :: S) σ = je X 47 66 [l0, l1, l2, l3, some (.inl x)] S σ := je_istore (show jm_fe 47 64 = some (jk_istore 4 2) from rfl) (Nat.le_of_ble_eq_true rfl)
theorem r_M_callOut_66 : je X 47 66 [l0, l1, l2, l3, some (.inl x)] S σ = je X 47 68 [l0, l1, l2, l3, some (.inl x)] (.inl x :: S) σ := je_iload (show jm_fe 47 66 = some (jk_iload 4 2) from rfl) rfl
theorem r_M_callOut_68 : je X 47 68 L S σ = je X 47 69 L (.inl 3 :: S) σ := je_const (show jm_fe 47 68 = some (jk_const 3 1) from rfl)
theorem r_M_callOut_69 : je X 47 69 L (.inl q :: .inl p :: S) σ = if q ≤ p then je X 47 119 L S σ else je X 47 72 L S σ := je_icmp_ge (show jm_fe 47 69 = some (jk_icmp .ge 119) from rfl)
theorem r_M_callOut_72 : je X 47 72 [some (.inr r), l1, l2, l3, l4] S σ = je X 47 73 [some (.inr r), l1, l2, l3, l4] (.inr r :: S) σ := je_aload (show jm_fe 47 72 = some (jk_aload 0 1) from rfl) rfl
theorem r_M_callOut_73 : je X 47 73 L (.inr (.inl (some a)) :: S) σ = je_v X 47 76 L S σ (jm_gf σ.1 a 9 35) := je_getf (show jm_fe 47 73 = some (jk_getf 9 35) from rfl)
theorem r_M_callOut_76 : je X 47 76 L S σ = je X 47 77 L (.inl 5 :: S) σ := je_const (show jm_fe 47 76 = some (jk_const 5 1) from rfl)
theorem r_M_callOut_77 : je X 47 77 [some (.inr r), l1, l2, l3, l4] S σ = je X 47 78 [some (.inr r), l1, l2, l3, l4] (.inr r :: S) σ := je_aload (show jm_fe 47 77 = some (jk_aload 0 1) from rfl) rfl
theorem r_M_callOut_78 : je X 47 78 L (.inr (.inl (some a)) :: S) σ = je_v X 47 81 L S σ (jm_gf σ.1 a 9 20) := je_getf (show jm_fe 47 78 = some (jk_getf 9 20) from rfl)
theorem r_M_callOut_81 : je X 47 81 L (.inl q :: .inl p :: S) σ = je X 47 82 L (.inl (p * q) :: S) σ := je_bin (show jm_fe 47 81 = some (jb_imul) from rfl)
theorem r_M_callOut_82 : je X 47 82 L S σ = je X 47 83 L (.inl 1 :: S) σ := je_const (show jm_fe 47 82 = some (jk_const 1 1) from rfl)
theorem r_M_callOut_83 : je X 47 83 L (.inl q :: .inl p :: S) σ = je X 47 84 L (.inl (p + q) :: S) σ := je_bin (show jm_fe 47 83 = some (jb_iadd) from rfl)
theorem r_M_callOut_84 : je X 47 84 [l0, l1, l2, l3, some (.inl x)] S σ = je X 47 86 [l0, l1, l2, l3, some (.inl x)] (.inl x :: S) σ := je_iload (show jm_fe 47 84 = some (jk_iload 4 2) from rfl) rfl
theorem r_M_callOut_86 : je X 47 86 L (.inl q :: .inl p :: S) σ = je X 47 87 L (.inl (p + q) :: S) σ := je_bin (show jm_fe 47 86 = some (jb_iadd) from rfl)
theorem r_M_callOut_87 : je X 47 87 [l0, l1, l2, l3, some (.inl x)] S σ = je X 47 89 [l0, l1, l2, l3, some (.inl x)] (.inl x :: S) σ := je_iload (show jm_fe 47 87 = some (jk_iload 4 2) from rfl) rfl
theorem r_M_callOut_89 : je X 47 89 [l0, l1, some (.inl x), l3, l4] S σ = je X 47 90 [l0, l1, some (.inl x), l3, l4] (.inl x :: S) σ := je_iload (show jm_fe 47 89 = some (jk_iload 2 1) from rfl) rfl
theorem r_M_callOut_90 : je X 47 90 L (.inl q :: .inl p :: S) σ = if q ≤ p then je X 47 111 L S σ else je X 47 93 L S σ := je_icmp_ge (show jm_fe 47 90 = some (jk_icmp .ge 111) from rfl)
theorem r_M_callOut_93 : je X 47 93 [some (.inr r), l1, l2, l3, l4] S σ = je X 47 94 [some (.inr r), l1, l2, l3, l4] (.inr r :: S) σ := je_aload (show jm_fe 47 93 = some (jk_aload 0 1) from rfl) rfl
theorem r_M_callOut_94 : je X 47 94 L (.inr (.inl (some a)) :: S) σ = je_v X 47 97 L S σ (jm_gf σ.1 a 9 26) := je_getf (show jm_fe 47 94 = some (jk_getf 9 26) from rfl)
theorem r_M_callOut_97 : je X 47 97 [some (.inr r), l1, l2, l3, l4] S σ = je X 47 98 [some (.inr r), l1, l2, l3, l4] (.inr r :: S) σ := je_aload (show jm_fe 47 97 = some (jk_aload 0 1) from rfl) rfl
theorem r_M_callOut_98 : je X 47 98 [l0, l1, some (.inl x), l3, l4] S σ = je X 47 99 [l0, l1, some (.inl x), l3, l4] (.inl x :: S) σ := je_iload (show jm_fe 47 98 = some (jk_iload 2 1) from rfl) rfl
theorem r_M_callOut_99 : je X 47 99 L S σ = je X 47 100 L (.inl 1 :: S) σ := je_const (show jm_fe 47 99 = some (jk_const 1 1) from rfl)
theorem r_M_callOut_100 : je X 47 100 L (.inl q :: .inl p :: S) σ = je X 47 101 L (.inl (p - q) :: S) σ := je_bin (show jm_fe 47 100 = some (jb_isub) from rfl)
theorem r_M_callOut_101 : je X 47 101 [l0, l1, l2, l3, some (.inl x)] S σ = je X 47 103 [l0, l1, l2, l3, some (.inl x)] (.inl x :: S) σ := je_iload (show jm_fe 47 101 = some (jk_iload 4 2) from rfl) rfl
theorem r_M_callOut_103 : je X 47 103 L (.inl q :: .inl p :: S) σ = je X 47 104 L (.inl (p - q) :: S) σ := je_bin (show jm_fe 47 103 = some (jb_isub) from rfl)
theorem r_M_callOut_104 (hc : jm_cl σ.1 a = some 9) (h8 : S.length ≤ 8) : je X 47 104 L (v0 :: .inr (.inl (some a)) :: S) σ = je_c X 47 107 L S (je X 35 0 [some (.inr (.inl (some a))), some v0] [] σ) := je_callV (as := [v0]) (S' := S) (show jm_fe 47 104 = some (jk_callV 35 1 9) from rfl) rfl hc h8
theorem r_M_callOut_107 : je X 47 107 L (.inl p :: .inr (.inl (some a)) :: S) σ = je_i X 47 108 L S σ (jm_al σ.1 a 0 p) := je_ald (show jm_fe 47 107 = some (jk_ald 0) from rfl)
theorem r_M_callOut_108 : je X 47 108 L S σ = je X 47 112 L S σ := je_goto (show jm_fe 47 108 = some (jk_goto 112) from rfl)
theorem r_M_callOut_111 : je X 47 111 L S σ = je X 47 112 L (.inl 0 :: S) σ := je_const (show jm_fe 47 111 = some (jk_const 0 1) from rfl)
theorem r_M_callOut_112 : je X 47 112 L (.inl q :: .inl p :: .inr (.inl (some a)) :: S) σ = je_h X 47 113 L S σ.2 (jm_as σ.1 a 0 p q) := je_iast (show jm_fe 47 112 = some (jk_iast) from rfl)
theorem r_M_callOut_113 : je X 47 113 [l0, l1, l2, l3, some (.inl x)] S σ = je X 47 116 [l0, l1, l2, l3, some (.inl (x + (1)))] S σ := je_iinc (show jm_fe 47 113 = some (jk_iinc 4 (1)) from rfl) rfl
theorem r_M_callOut_116 : je X 47 116 L S σ = je X 47 66 L S σ := je_goto (show jm_fe 47 116 = some (jk_goto 66) from rfl)
theorem r_M_callOut_119 : je X 47 119 [some (.inr r), l1, l2, l3, l4] S σ = je X 47 120 [some (.inr r), l1, l2, l3, l4] (.inr r :: S) σ := je_aload (show jm_fe 47 119 = some (jk_aload 0 1) from rfl) rfl
theorem r_M_callOut_120 : je X 47 120 L (.inr (.inl (some a)) :: S) σ = je_v X 47 123 L S σ (jm_gf σ.1 a 9 35) := je_getf (show jm_fe 47 120 = some (jk_getf 9 35) from rfl)
theorem r_M_callOut_123 : je X 47 123 L S σ = je X 47 124 L (.inl 5 :: S) σ := je_const (show jm_fe 47 123 = some (jk_const 5 1) from rfl)
theorem r_M_callOut_124 : je X 47 124 [some (.inr r), l1, l2, l3, l4] S σ = je X 47 125 [some (.inr r), l1, l2, l3, l4] (.inr r :: S) σ := je_aload (show jm_fe 47 124 = some (jk_aload 0 1) from rfl) rfl
theorem r_M_callOut_125 : je X 47 125 L (.inr (.inl (some a)) :: S) σ = je_v X 47 128 L S σ (jm_gf σ.1 a 9 20) := je_getf (show jm_fe 47 125 = some (jk_getf 9 20) from rfl)
theorem r_M_callOut_128 : je X 47 128 L (.inl q :: .inl p :: S) σ = je X 47 129 L (.inl (p * q) :: S) σ := je_bin (show jm_fe 47 128 = some (jb_imul) from rfl)
theorem r_M_callOut_129 : je X 47 129 L S σ = je X 47 130 L (.inl 4 :: S) σ := je_const (show jm_fe 47 129 = some (jk_const 4 1) from rfl)
theorem r_M_callOut_130 : je X 47 130 L (.inl q :: .inl p :: S) σ = je X 47 131 L (.inl (p + q) :: S) σ := je_bin (show jm_fe 47 130 = some (jb_iadd) from rfl)
theorem r_M_callOut_131 : je X 47 131 [l0, l1, l2, some (.inl x), l4] S σ = je X 47 132 [l0, l1, l2, some (.inl x), l4] (.inl x :: S) σ := je_iload (show jm_fe 47 131 = some (jk_iload 3 1) from rfl) rfl
theorem r_M_callOut_132 : je X 47 132 L (.inl q :: .inl p :: .inr (.inl (some a)) :: S) σ = je_h X 47 133 L S σ.2 (jm_as σ.1 a 0 p q) := je_iast (show jm_fe 47 132 = some (jk_iast) from rfl)
theorem r_M_callOut_133 : je X 47 133 [some (.inr r), l1, l2, l3, l4] S σ = je X 47 134 [some (.inr r), l1, l2, l3, l4] (.inr r :: S) σ := je_aload (show jm_fe 47 133 = some (jk_aload 0 1) from rfl) rfl
theorem r_M_callOut_134 : je X 47 134 L (v :: S) σ = je X 47 135 L (v :: v :: S) σ := je_dup (show jm_fe 47 134 = some (jk_dup) from rfl)
theorem r_M_callOut_135 : je X 47 135 L (.inr (.inl (some a)) :: S) σ = je_v X 47 138 L S σ (jm_gf σ.1 a 9 20) := je_getf (show jm_fe 47 135 = some (jk_getf 9 20) from rfl)
theorem r_M_callOut_138 : je X 47 138 L S σ = je X 47 139 L (.inl 1 :: S) σ := je_const (show jm_fe 47 138 = some (jk_const 1 1) from rfl)
theorem r_M_callOut_139 : je X 47 139 L (.inl q :: .inl p :: S) σ = je X 47 140 L (.inl (p + q) :: S) σ := je_bin (show jm_fe 47 139 = some (jb_iadd) from rfl)
theorem r_M_callOut_140 : je X 47 140 L (v :: .inr (.inl (some a)) :: S) σ = je_h X 47 143 L S σ.2 (jm_pf σ.1 a 9 20 0 v) := je_putf (show jm_fe 47 140 = some (jk_putf 9 20 0) from rfl)
set_option maxRecDepth 20000 in
theorem r_M_callOut_143 : je X 47 143 [some (.inr r), l1, l2, l3, l4] S σ = je X 47 144 [some (.inr r), l1, l2, l3, l4] (.inr r :: S) σ := je_aload (show jm_fe 47 143 = some (jk_aload 0 1) from rfl) rfl
set_option maxRecDepth 20000 in
theorem r_M_callOut_144 : je X 47 144 [l0, l1, some (.inl x), l3, l4] S σ = je X 47 145 [l0, l1, some (.inl x), l3, l4] (.inl x :: S) σ := je_iload (show jm_fe 47 144 = some (jk_iload 2 1) from rfl) rfl
set_option maxRecDepth 20000 in
theorem r_M_callOut_145 (hc : jm_cl σ.1 a = some 9) (h8 : S.length ≤ 8) : je X 47 145 L (v0 :: .inr (.inl (some a)) :: S) σ = je_c X 47 148 L S (je X 36 0 [some (.inr (.inl (some a))), some v0] [] σ) := je_callV (as := [v0]) (S' := S) (show jm_fe 47 145 = some (jk_callV 36 1 9) from rfl) rfl hc h8
set_option maxRecDepth 20000 in
theorem r_M_callOut_148 : je X 47 148 [some (.inr r), l1, l2, l3, l4] S σ = je X 47 149 [some (.inr r), l1, l2, l3, l4] (.inr r :: S) σ := je_aload (show jm_fe 47 148 = some (jk_aload 0 1) from rfl) rfl
set_option maxRecDepth 20000 in
theorem r_M_callOut_149 : je X 47 149 [l0, l1, l2, some (.inl x), l4] S σ = je X 47 150 [l0, l1, l2, some (.inl x), l4] (.inl x :: S) σ := je_iload (show jm_fe 47 149 = some (jk_iload 3 1) from rfl) rfl
set_option maxRecDepth 20000 in
theorem r_M_callOut_150 : je X 47 150 L S σ = je X 47 151 L (.inl 0 :: S) σ := je_const (show jm_fe 47 150 = some (jk_const 0 1) from rfl)
set_option maxRecDepth 20000 in
theorem r_M_callOut_151 (hc : jm_cl σ.1 a = some 9) (h8 : S.length ≤ 8) : je X 47 151 L (v1 :: v0 :: .inr (.inl (some a)) :: S) σ = je_c X 47 154 L S (je X 34 0 [some (.inr (.inl (some a))), some v0, some v1, none] [] σ) := je_callV (as := [v0, v1]) (S' := S) (show jm_fe 47 151 = some (jk_callV 34 2 9) from rfl) rfl hc h8
set_option maxRecDepth 20000 in
theorem r_M_callOut_154 : je X 47 154 [some (.inr r), l1, l2, l3, l4] S σ = je X 47 155 [some (.inr r), l1, l2, l3, l4] (.inr r :: S) σ := je_aload (show jm_fe 47 154 = some (jk_aload 0 1) from rfl) rfl
set_option maxRecDepth 20000 in
theorem r_M_callOut_155 (hc : jm_cl σ.1 a = some 9) (h8 : S.length ≤ 8) : je X 47 155 L (.inr (.inl (some a)) :: S) σ = je_c X 47 158 L S (je X 37 0 [some (.inr (.inl (some a)))] [] σ) := je_callV (as := []) (S' := S) (show jm_fe 47 155 = some (jk_callV 37 0 9) from rfl) rfl hc h8
set_option maxRecDepth 20000 in
theorem r_M_callOut_158 : je X 47 158 L [] σ = some (none, σ) := je_ret (show jm_fe 47 158 = some (jk_ret) from rfl)
end JR
