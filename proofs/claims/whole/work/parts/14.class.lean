section CL
variable {V A : Nat → Nat → Int32} {w : Nat → Int32} {B : Nat → Nat → Int32} {x i : Int32} {f : Nat}
theorem sk_S : jx_skI[0]? = some (.inl (0, [some (.inr (.inl (some 1))), some (.inr (.inl (some 67))), some (.inr (.inl (some 69)))])) := rfl
theorem cI_S : jm_cl (hp V A w B) 0 = some 0 := cI sk_S
theorem gI_S_program : jm_gf (hp V A w B) 0 0 0 = some (.inr (.inl (some 1))) := gI_r sk_S rfl
theorem gI_S_answers : jm_gf (hp V A w B) 0 0 1 = some (.inr (.inl (some 67))) := gI_r sk_S rfl
theorem gI_S_run : jm_gf (hp V A w B) 0 0 2 = some (.inr (.inl (some 69))) := gI_r sk_S rfl
theorem sk_Prog : jx_skI[1]? = some (.inl (1, [some (.inr (.inl (some 2))), none])) := rfl
theorem cI_Prog : jm_cl (hp V A w B) 1 = some 1 := cI sk_Prog
theorem gI_Prog_functions : jm_gf (hp V A w B) 1 1 0 = some (.inr (.inl (some 2))) := gI_r sk_Prog rfl
theorem qI_Prog_functions (hf : f < 8) : jm_ar (hp V A w B) 2 2 (nI f) = some (some (3 + 8 * f)) := by
  have h1 : jx_skI[2]? = some (.inr (.inr (2, [some 3, some 11, some 19, some 27, some 35, some 43, some 51, some 59]))) := rfl
  rw [qI h1 (jm_in_nI hf (by decide)), nI_clamp (by omega)]
  have h2 : ∀ f, f < 8 → ([some 3, some 11, some 19, some 27, some 35, some 43, some 51, some 59] : List (Option Nat))[f]?.join = some (3 + 8 * f) := by decide
  rw [h2 f hf]
theorem gI_Prog_count : jm_gf (hp V A w B) 1 1 1 = some (.inl (V 1 1)) := gI_i sk_Prog rfl
theorem pI_Prog_count : jm_pf (hp V A w B) 1 1 1 0 (.inl x) = some (hp (va_up V 1 (upd (V 1) 1 x)) A w B) := pI sk_Prog rfl rfl
theorem sk_Ans : jx_skI[67]? = some (.inl (3, [some (.inr (.inl (some 68))), none])) := rfl
theorem cI_Ans : jm_cl (hp V A w B) 67 = some 3 := cI sk_Ans
theorem gI_Ans_given : jm_gf (hp V A w B) 67 3 0 = some (.inr (.inl (some 68))) := gI_r sk_Ans rfl
theorem sk_Ans_given : jx_skI[68]? = some (.inr (.inl (0, 64))) := rfl
theorem aI_Ans_given (hi : jm_in i 64 = true) : jm_al (hp V A w B) 68 0 i = some (A 68 i.toNatClampNeg) := aI sk_Ans_given hi
theorem sI_Ans_given (hi : jm_in i 64 = true) : jm_as (hp V A w B) 68 0 i x = some (hp V (va_up A 68 (upd (A 68) i.toNatClampNeg x)) w B) := sI sk_Ans_given hi
theorem lI_Ans_given : jm_an (hp V A w B) 68 4 = some 64 := nI_ sk_Ans_given (by decide)
theorem gI_Ans_count : jm_gf (hp V A w B) 67 3 1 = some (.inl (V 67 1)) := gI_i sk_Ans rfl
theorem pI_Ans_count : jm_pf (hp V A w B) 67 3 1 0 (.inl x) = some (hp (va_up V 67 (upd (V 67) 1 x)) A w B) := pI sk_Ans rfl rfl
theorem sk_Run : jx_skI[69]? = some (.inl (4, [some (.inr (.inl (some 1))), some (.inr (.inl (some 67))), some (.inr (.inl (some 70))), some (.inr (.inl (some 211))), some (.inr (.inl (some 215))), none, none, none, none, none, none, none])) := rfl
theorem cI_Run : jm_cl (hp V A w B) 69 = some 4 := cI sk_Run
theorem gI_Run_program : jm_gf (hp V A w B) 69 4 0 = some (.inr (.inl (some 1))) := gI_r sk_Run rfl
theorem gI_Run_answers : jm_gf (hp V A w B) 69 4 1 = some (.inr (.inl (some 67))) := gI_r sk_Run rfl
theorem gI_Run_frames : jm_gf (hp V A w B) 69 4 2 = some (.inr (.inl (some 70))) := gI_r sk_Run rfl
theorem qI_Run_frames (hf : f < 20) : jm_ar (hp V A w B) 70 3 (nI f) = some (some (71 + 7 * f)) := by
  have h1 : jx_skI[70]? = some (.inr (.inr (3, [some 71, some 78, some 85, some 92, some 99, some 106, some 113, some 120, some 127, some 134, some 141, some 148, some 155, some 162, some 169, some 176, some 183, some 190, some 197, some 204]))) := rfl
  rw [qI h1 (jm_in_nI hf (by decide)), nI_clamp (by omega)]
  have h2 : ∀ f, f < 20 → ([some 71, some 78, some 85, some 92, some 99, some 106, some 113, some 120, some 127, some 134, some 141, some 148, some 155, some 162, some 169, some 176, some 183, some 190, some 197, some 204] : List (Option Nat))[f]?.join = some (71 + 7 * f) := by decide
  rw [h2 f hf]
theorem gI_Run_rows : jm_gf (hp V A w B) 69 4 3 = some (.inr (.inl (some 211))) := gI_r sk_Run rfl
theorem gI_Run_outside : jm_gf (hp V A w B) 69 4 4 = some (.inr (.inl (some 215))) := gI_r sk_Run rfl
theorem gI_Run_exists : jm_gf (hp V A w B) 69 4 5 = some (.inl (V 69 5)) := gI_i sk_Run rfl
theorem pI_Run_exists (hx : x = 0 ∨ x = 1) : jm_pf (hp V A w B) 69 4 5 1 (.inl x) = some (hp (va_up V 69 (upd (V 69) 5 x)) A w B) := pI sk_Run rfl (decide_eq_true hx)
theorem gI_Run_depth : jm_gf (hp V A w B) 69 4 6 = some (.inl (V 69 6)) := gI_i sk_Run rfl
theorem pI_Run_depth : jm_pf (hp V A w B) 69 4 6 0 (.inl x) = some (hp (va_up V 69 (upd (V 69) 6 x)) A w B) := pI sk_Run rfl rfl
theorem gI_Run_most : jm_gf (hp V A w B) 69 4 7 = some (.inl (V 69 7)) := gI_i sk_Run rfl
theorem pI_Run_most : jm_pf (hp V A w B) 69 4 7 0 (.inl x) = some (hp (va_up V 69 (upd (V 69) 7 x)) A w B) := pI sk_Run rfl rfl
theorem gI_Run_steps : jm_gf (hp V A w B) 69 4 8 = some (.inl (V 69 8)) := gI_i sk_Run rfl
theorem pI_Run_steps : jm_pf (hp V A w B) 69 4 8 0 (.inl x) = some (hp (va_up V 69 (upd (V 69) 8 x)) A w B) := pI sk_Run rfl rfl
theorem gI_Run_ended : jm_gf (hp V A w B) 69 4 9 = some (.inl (V 69 9)) := gI_i sk_Run rfl
theorem pI_Run_ended : jm_pf (hp V A w B) 69 4 9 0 (.inl x) = some (hp (va_up V 69 (upd (V 69) 9 x)) A w B) := pI sk_Run rfl rfl
theorem gI_Run_result : jm_gf (hp V A w B) 69 4 10 = some (.inl (V 69 10)) := gI_i sk_Run rfl
theorem pI_Run_result : jm_pf (hp V A w B) 69 4 10 0 (.inl x) = some (hp (va_up V 69 (upd (V 69) 10 x)) A w B) := pI sk_Run rfl rfl
theorem gI_Run_thrown : jm_gf (hp V A w B) 69 4 11 = some (.inl (V 69 11)) := gI_i sk_Run rfl
theorem pI_Run_thrown : jm_pf (hp V A w B) 69 4 11 0 (.inl x) = some (hp (va_up V 69 (upd (V 69) 11 x)) A w B) := pI sk_Run rfl rfl
theorem sk_Rows : jx_skI[211]? = some (.inl (7, [some (.inr (.inl (some 212))), some (.inr (.inl (some 213))), some (.inr (.inl (some 214))), none, none])) := rfl
theorem cI_Rows : jm_cl (hp V A w B) 211 = some 7 := cI sk_Rows
theorem gI_Rows_store : jm_gf (hp V A w B) 211 7 0 = some (.inr (.inl (some 212))) := gI_r sk_Rows rfl
theorem sk_Rows_store : jx_skI[212]? = some (.inr (.inl (0, 1024))) := rfl
theorem aI_Rows_store (hi : jm_in i 1024 = true) : jm_al (hp V A w B) 212 0 i = some (A 212 i.toNatClampNeg) := aI sk_Rows_store hi
theorem sI_Rows_store (hi : jm_in i 1024 = true) : jm_as (hp V A w B) 212 0 i x = some (hp V (va_up A 212 (upd (A 212) i.toNatClampNeg x)) w B) := sI sk_Rows_store hi
theorem lI_Rows_store : jm_an (hp V A w B) 212 4 = some 1024 := nI_ sk_Rows_store (by decide)
theorem gI_Rows_starts : jm_gf (hp V A w B) 211 7 1 = some (.inr (.inl (some 213))) := gI_r sk_Rows rfl
theorem sk_Rows_starts : jx_skI[213]? = some (.inr (.inl (0, 500))) := rfl
theorem aI_Rows_starts (hi : jm_in i 500 = true) : jm_al (hp V A w B) 213 0 i = some (A 213 i.toNatClampNeg) := aI sk_Rows_starts hi
theorem sI_Rows_starts (hi : jm_in i 500 = true) : jm_as (hp V A w B) 213 0 i x = some (hp V (va_up A 213 (upd (A 213) i.toNatClampNeg x)) w B) := sI sk_Rows_starts hi
theorem lI_Rows_starts : jm_an (hp V A w B) 213 4 = some 500 := nI_ sk_Rows_starts (by decide)
theorem gI_Rows_sizes : jm_gf (hp V A w B) 211 7 2 = some (.inr (.inl (some 214))) := gI_r sk_Rows rfl
theorem sk_Rows_sizes : jx_skI[214]? = some (.inr (.inl (0, 500))) := rfl
theorem aI_Rows_sizes (hi : jm_in i 500 = true) : jm_al (hp V A w B) 214 0 i = some (A 214 i.toNatClampNeg) := aI sk_Rows_sizes hi
theorem sI_Rows_sizes (hi : jm_in i 500 = true) : jm_as (hp V A w B) 214 0 i x = some (hp V (va_up A 214 (upd (A 214) i.toNatClampNeg x)) w B) := sI sk_Rows_sizes hi
theorem lI_Rows_sizes : jm_an (hp V A w B) 214 4 = some 500 := nI_ sk_Rows_sizes (by decide)
theorem gI_Rows_count : jm_gf (hp V A w B) 211 7 3 = some (.inl (V 211 3)) := gI_i sk_Rows rfl
theorem pI_Rows_count : jm_pf (hp V A w B) 211 7 3 0 (.inl x) = some (hp (va_up V 211 (upd (V 211) 3 x)) A w B) := pI sk_Rows rfl rfl
theorem gI_Rows_used : jm_gf (hp V A w B) 211 7 4 = some (.inl (V 211 4)) := gI_i sk_Rows rfl
theorem pI_Rows_used : jm_pf (hp V A w B) 211 7 4 0 (.inl x) = some (hp (va_up V 211 (upd (V 211) 4 x)) A w B) := pI sk_Rows rfl rfl
theorem sk_Out : jx_skI[215]? = some (.inl (8, [some (.inr (.inl (some 216))), none])) := rfl
theorem cI_Out : jm_cl (hp V A w B) 215 = some 8 := cI sk_Out
theorem gI_Out_kept : jm_gf (hp V A w B) 215 8 0 = some (.inr (.inl (some 216))) := gI_r sk_Out rfl
theorem sk_Out_kept : jx_skI[216]? = some (.inr (.inl (0, 320))) := rfl
theorem aI_Out_kept (hi : jm_in i 320 = true) : jm_al (hp V A w B) 216 0 i = some (A 216 i.toNatClampNeg) := aI sk_Out_kept hi
theorem sI_Out_kept (hi : jm_in i 320 = true) : jm_as (hp V A w B) 216 0 i x = some (hp V (va_up A 216 (upd (A 216) i.toNatClampNeg x)) w B) := sI sk_Out_kept hi
theorem lI_Out_kept : jm_an (hp V A w B) 216 4 = some 320 := nI_ sk_Out_kept (by decide)
theorem gI_Out_count : jm_gf (hp V A w B) 215 8 1 = some (.inl (V 215 1)) := gI_i sk_Out rfl
theorem pI_Out_count : jm_pf (hp V A w B) 215 8 1 0 (.inl x) = some (hp (va_up V 215 (upd (V 215) 1 x)) A w B) := pI sk_Out rfl rfl
theorem sk_Fun : ∀ f, f < 8 → jx_skI[3 + 8 * f]? = some (.inl (2, [some (.inr (.inl (some (4 + 8 * f)))), some (.inr (.inl (some (5 + 8 * f)))), some (.inr (.inl (some (6 + 8 * f)))), some (.inr (.inl (some (7 + 8 * f)))), some (.inr (.inl (some (8 + 8 * f)))), some (.inr (.inl (some (9 + 8 * f)))), some (.inr (.inl (some (10 + 8 * f)))), none, none, none, none, none])) := by
  intro f hf
  rcases (show f = 0 ∨ f = 1 ∨ f = 2 ∨ f = 3 ∨ f = 4 ∨ f = 5 ∨ f = 6 ∨ f = 7 by omega) with rfl | rfl | rfl | rfl | rfl | rfl | rfl | rfl <;> rfl
theorem cI_Fun (hf : f < 8) : jm_cl (hp V A w B) (3 + 8 * f) = some 2 := cI (sk_Fun f hf)
theorem gI_Fun_operations (hf : f < 8) : jm_gf (hp V A w B) (3 + 8 * f) 2 0 = some (.inr (.inl (some (4 + 8 * f)))) := gI_r (sk_Fun f hf) rfl
theorem sk_Fun_operations : ∀ f, f < 8 → jx_skI[4 + 8 * f]? = some (.inr (.inl (0, 100))) := by
  intro f hf
  rcases (show f = 0 ∨ f = 1 ∨ f = 2 ∨ f = 3 ∨ f = 4 ∨ f = 5 ∨ f = 6 ∨ f = 7 by omega) with rfl | rfl | rfl | rfl | rfl | rfl | rfl | rfl <;> rfl
theorem aI_Fun_operations (hf : f < 8) (hi : jm_in i 100 = true) : jm_al (hp V A w B) (4 + 8 * f) 0 i = some (A (4 + 8 * f) i.toNatClampNeg) := aI (sk_Fun_operations f hf) hi
theorem sI_Fun_operations (hf : f < 8) (hi : jm_in i 100 = true) : jm_as (hp V A w B) (4 + 8 * f) 0 i x = some (hp V (va_up A (4 + 8 * f) (upd (A (4 + 8 * f)) i.toNatClampNeg x)) w B) := sI (sk_Fun_operations f hf) hi
theorem lI_Fun_operations (hf : f < 8) : jm_an (hp V A w B) (4 + 8 * f) 4 = some 100 := nI_ (sk_Fun_operations f hf) (by decide)
theorem gI_Fun_numbers (hf : f < 8) : jm_gf (hp V A w B) (3 + 8 * f) 2 1 = some (.inr (.inl (some (5 + 8 * f)))) := gI_r (sk_Fun f hf) rfl
theorem sk_Fun_numbers : ∀ f, f < 8 → jx_skI[5 + 8 * f]? = some (.inr (.inl (0, 100))) := by
  intro f hf
  rcases (show f = 0 ∨ f = 1 ∨ f = 2 ∨ f = 3 ∨ f = 4 ∨ f = 5 ∨ f = 6 ∨ f = 7 by omega) with rfl | rfl | rfl | rfl | rfl | rfl | rfl | rfl <;> rfl
theorem aI_Fun_numbers (hf : f < 8) (hi : jm_in i 100 = true) : jm_al (hp V A w B) (5 + 8 * f) 0 i = some (A (5 + 8 * f) i.toNatClampNeg) := aI (sk_Fun_numbers f hf) hi
theorem sI_Fun_numbers (hf : f < 8) (hi : jm_in i 100 = true) : jm_as (hp V A w B) (5 + 8 * f) 0 i x = some (hp V (va_up A (5 + 8 * f) (upd (A (5 + 8 * f)) i.toNatClampNeg x)) w B) := sI (sk_Fun_numbers f hf) hi
theorem lI_Fun_numbers (hf : f < 8) : jm_an (hp V A w B) (5 + 8 * f) 4 = some 100 := nI_ (sk_Fun_numbers f hf) (by decide)
theorem gI_Fun_froms (hf : f < 8) : jm_gf (hp V A w B) (3 + 8 * f) 2 2 = some (.inr (.inl (some (6 + 8 * f)))) := gI_r (sk_Fun f hf) rfl
theorem sk_Fun_froms : ∀ f, f < 8 → jx_skI[6 + 8 * f]? = some (.inr (.inl (0, 4))) := by
  intro f hf
  rcases (show f = 0 ∨ f = 1 ∨ f = 2 ∨ f = 3 ∨ f = 4 ∨ f = 5 ∨ f = 6 ∨ f = 7 by omega) with rfl | rfl | rfl | rfl | rfl | rfl | rfl | rfl <;> rfl
theorem aI_Fun_froms (hf : f < 8) (hi : jm_in i 4 = true) : jm_al (hp V A w B) (6 + 8 * f) 0 i = some (A (6 + 8 * f) i.toNatClampNeg) := aI (sk_Fun_froms f hf) hi
theorem sI_Fun_froms (hf : f < 8) (hi : jm_in i 4 = true) : jm_as (hp V A w B) (6 + 8 * f) 0 i x = some (hp V (va_up A (6 + 8 * f) (upd (A (6 + 8 * f)) i.toNatClampNeg x)) w B) := sI (sk_Fun_froms f hf) hi
theorem lI_Fun_froms (hf : f < 8) : jm_an (hp V A w B) (6 + 8 * f) 4 = some 4 := nI_ (sk_Fun_froms f hf) (by decide)
theorem gI_Fun_tos (hf : f < 8) : jm_gf (hp V A w B) (3 + 8 * f) 2 3 = some (.inr (.inl (some (7 + 8 * f)))) := gI_r (sk_Fun f hf) rfl
theorem sk_Fun_tos : ∀ f, f < 8 → jx_skI[7 + 8 * f]? = some (.inr (.inl (0, 4))) := by
  intro f hf
  rcases (show f = 0 ∨ f = 1 ∨ f = 2 ∨ f = 3 ∨ f = 4 ∨ f = 5 ∨ f = 6 ∨ f = 7 by omega) with rfl | rfl | rfl | rfl | rfl | rfl | rfl | rfl <;> rfl
theorem aI_Fun_tos (hf : f < 8) (hi : jm_in i 4 = true) : jm_al (hp V A w B) (7 + 8 * f) 0 i = some (A (7 + 8 * f) i.toNatClampNeg) := aI (sk_Fun_tos f hf) hi
theorem sI_Fun_tos (hf : f < 8) (hi : jm_in i 4 = true) : jm_as (hp V A w B) (7 + 8 * f) 0 i x = some (hp V (va_up A (7 + 8 * f) (upd (A (7 + 8 * f)) i.toNatClampNeg x)) w B) := sI (sk_Fun_tos f hf) hi
theorem lI_Fun_tos (hf : f < 8) : jm_an (hp V A w B) (7 + 8 * f) 4 = some 4 := nI_ (sk_Fun_tos f hf) (by decide)
theorem gI_Fun_targets (hf : f < 8) : jm_gf (hp V A w B) (3 + 8 * f) 2 4 = some (.inr (.inl (some (8 + 8 * f)))) := gI_r (sk_Fun f hf) rfl
theorem sk_Fun_targets : ∀ f, f < 8 → jx_skI[8 + 8 * f]? = some (.inr (.inl (0, 4))) := by
  intro f hf
  rcases (show f = 0 ∨ f = 1 ∨ f = 2 ∨ f = 3 ∨ f = 4 ∨ f = 5 ∨ f = 6 ∨ f = 7 by omega) with rfl | rfl | rfl | rfl | rfl | rfl | rfl | rfl <;> rfl
theorem aI_Fun_targets (hf : f < 8) (hi : jm_in i 4 = true) : jm_al (hp V A w B) (8 + 8 * f) 0 i = some (A (8 + 8 * f) i.toNatClampNeg) := aI (sk_Fun_targets f hf) hi
theorem sI_Fun_targets (hf : f < 8) (hi : jm_in i 4 = true) : jm_as (hp V A w B) (8 + 8 * f) 0 i x = some (hp V (va_up A (8 + 8 * f) (upd (A (8 + 8 * f)) i.toNatClampNeg x)) w B) := sI (sk_Fun_targets f hf) hi
theorem lI_Fun_targets (hf : f < 8) : jm_an (hp V A w B) (8 + 8 * f) 4 = some 4 := nI_ (sk_Fun_targets f hf) (by decide)
theorem gI_Fun_codes (hf : f < 8) : jm_gf (hp V A w B) (3 + 8 * f) 2 5 = some (.inr (.inl (some (9 + 8 * f)))) := gI_r (sk_Fun f hf) rfl
theorem sk_Fun_codes : ∀ f, f < 8 → jx_skI[9 + 8 * f]? = some (.inr (.inl (0, 4))) := by
  intro f hf
  rcases (show f = 0 ∨ f = 1 ∨ f = 2 ∨ f = 3 ∨ f = 4 ∨ f = 5 ∨ f = 6 ∨ f = 7 by omega) with rfl | rfl | rfl | rfl | rfl | rfl | rfl | rfl <;> rfl
theorem aI_Fun_codes (hf : f < 8) (hi : jm_in i 4 = true) : jm_al (hp V A w B) (9 + 8 * f) 0 i = some (A (9 + 8 * f) i.toNatClampNeg) := aI (sk_Fun_codes f hf) hi
theorem sI_Fun_codes (hf : f < 8) (hi : jm_in i 4 = true) : jm_as (hp V A w B) (9 + 8 * f) 0 i x = some (hp V (va_up A (9 + 8 * f) (upd (A (9 + 8 * f)) i.toNatClampNeg x)) w B) := sI (sk_Fun_codes f hf) hi
theorem lI_Fun_codes (hf : f < 8) : jm_an (hp V A w B) (9 + 8 * f) 4 = some 4 := nI_ (sk_Fun_codes f hf) (by decide)
theorem gI_Fun_narrowed (hf : f < 8) : jm_gf (hp V A w B) (3 + 8 * f) 2 6 = some (.inr (.inl (some (10 + 8 * f)))) := gI_r (sk_Fun f hf) rfl
theorem sk_Fun_narrowed : ∀ f, f < 8 → jx_skI[10 + 8 * f]? = some (.inr (.inl (1, 4))) := by
  intro f hf
  rcases (show f = 0 ∨ f = 1 ∨ f = 2 ∨ f = 3 ∨ f = 4 ∨ f = 5 ∨ f = 6 ∨ f = 7 by omega) with rfl | rfl | rfl | rfl | rfl | rfl | rfl | rfl <;> rfl
theorem aI_Fun_narrowed (hf : f < 8) (hi : jm_in i 4 = true) : jm_al (hp V A w B) (10 + 8 * f) 1 i = some (A (10 + 8 * f) i.toNatClampNeg) := aI (sk_Fun_narrowed f hf) hi
theorem sI_Fun_narrowed (hf : f < 8) (hi : jm_in i 4 = true) : jm_as (hp V A w B) (10 + 8 * f) 1 i x = some (hp V (va_up A (10 + 8 * f) (upd (A (10 + 8 * f)) i.toNatClampNeg x)) w B) := sI (sk_Fun_narrowed f hf) hi
theorem lI_Fun_narrowed (hf : f < 8) : jm_an (hp V A w B) (10 + 8 * f) 4 = some 4 := nI_ (sk_Fun_narrowed f hf) (by decide)
theorem gI_Fun_params (hf : f < 8) : jm_gf (hp V A w B) (3 + 8 * f) 2 7 = some (.inl (V (3 + 8 * f) 7)) := gI_i (sk_Fun f hf) rfl
theorem pI_Fun_params (hf : f < 8) : jm_pf (hp V A w B) (3 + 8 * f) 2 7 0 (.inl x) = some (hp (va_up V (3 + 8 * f) (upd (V (3 + 8 * f)) 7 x)) A w B) := pI (sk_Fun f hf) rfl rfl
theorem gI_Fun_locals (hf : f < 8) : jm_gf (hp V A w B) (3 + 8 * f) 2 8 = some (.inl (V (3 + 8 * f) 8)) := gI_i (sk_Fun f hf) rfl
theorem pI_Fun_locals (hf : f < 8) : jm_pf (hp V A w B) (3 + 8 * f) 2 8 0 (.inl x) = some (hp (va_up V (3 + 8 * f) (upd (V (3 + 8 * f)) 8 x)) A w B) := pI (sk_Fun f hf) rfl rfl
theorem gI_Fun_givesValue (hf : f < 8) : jm_gf (hp V A w B) (3 + 8 * f) 2 9 = some (.inl (V (3 + 8 * f) 9)) := gI_i (sk_Fun f hf) rfl
theorem pI_Fun_givesValue (hf : f < 8) (hx : x = 0 ∨ x = 1) : jm_pf (hp V A w B) (3 + 8 * f) 2 9 1 (.inl x) = some (hp (va_up V (3 + 8 * f) (upd (V (3 + 8 * f)) 9 x)) A w B) := pI (sk_Fun f hf) rfl (decide_eq_true hx)
theorem gI_Fun_size (hf : f < 8) : jm_gf (hp V A w B) (3 + 8 * f) 2 10 = some (.inl (V (3 + 8 * f) 10)) := gI_i (sk_Fun f hf) rfl
theorem pI_Fun_size (hf : f < 8) : jm_pf (hp V A w B) (3 + 8 * f) 2 10 0 (.inl x) = some (hp (va_up V (3 + 8 * f) (upd (V (3 + 8 * f)) 10 x)) A w B) := pI (sk_Fun f hf) rfl rfl
theorem gI_Fun_handlers (hf : f < 8) : jm_gf (hp V A w B) (3 + 8 * f) 2 11 = some (.inl (V (3 + 8 * f) 11)) := gI_i (sk_Fun f hf) rfl
theorem pI_Fun_handlers (hf : f < 8) : jm_pf (hp V A w B) (3 + 8 * f) 2 11 0 (.inl x) = some (hp (va_up V (3 + 8 * f) (upd (V (3 + 8 * f)) 11 x)) A w B) := pI (sk_Fun f hf) rfl rfl
theorem sk_Frame : ∀ f, f < 20 → jx_skI[71 + 7 * f]? = some (.inl (5, [some (.inr (.inl (some (72 + 7 * f)))), some (.inr (.inl (some (75 + 7 * f)))), none, none])) := by
  intro f hf
  rcases (show f = 0 ∨ f = 1 ∨ f = 2 ∨ f = 3 ∨ f = 4 ∨ f = 5 ∨ f = 6 ∨ f = 7 ∨ f = 8 ∨ f = 9 ∨ f = 10 ∨ f = 11 ∨ f = 12 ∨ f = 13 ∨ f = 14 ∨ f = 15 ∨ f = 16 ∨ f = 17 ∨ f = 18 ∨ f = 19 by omega) with rfl | rfl | rfl | rfl | rfl | rfl | rfl | rfl | rfl | rfl | rfl | rfl | rfl | rfl | rfl | rfl | rfl | rfl | rfl | rfl <;> rfl
theorem cI_Frame (hf : f < 20) : jm_cl (hp V A w B) (71 + 7 * f) = some 5 := cI (sk_Frame f hf)
theorem gI_Frame_stack (hf : f < 20) : jm_gf (hp V A w B) (71 + 7 * f) 5 0 = some (.inr (.inl (some (72 + 7 * f)))) := gI_r (sk_Frame f hf) rfl
theorem gI_Frame_ownLocals (hf : f < 20) : jm_gf (hp V A w B) (71 + 7 * f) 5 1 = some (.inr (.inl (some (75 + 7 * f)))) := gI_r (sk_Frame f hf) rfl
theorem gI_Frame_function (hf : f < 20) : jm_gf (hp V A w B) (71 + 7 * f) 5 2 = some (.inl (V (71 + 7 * f) 2)) := gI_i (sk_Frame f hf) rfl
theorem pI_Frame_function (hf : f < 20) : jm_pf (hp V A w B) (71 + 7 * f) 5 2 0 (.inl x) = some (hp (va_up V (71 + 7 * f) (upd (V (71 + 7 * f)) 2 x)) A w B) := pI (sk_Frame f hf) rfl rfl
theorem gI_Frame_next (hf : f < 20) : jm_gf (hp V A w B) (71 + 7 * f) 5 3 = some (.inl (V (71 + 7 * f) 3)) := gI_i (sk_Frame f hf) rfl
theorem pI_Frame_next (hf : f < 20) : jm_pf (hp V A w B) (71 + 7 * f) 5 3 0 (.inl x) = some (hp (va_up V (71 + 7 * f) (upd (V (71 + 7 * f)) 3 x)) A w B) := pI (sk_Frame f hf) rfl rfl
theorem sk_Stk : ∀ f, f < 20 → jx_skI[72 + 7 * f]? = some (.inl (6, [some (.inr (.inl (some (73 + 7 * f)))), some (.inr (.inl (some (74 + 7 * f)))), none])) := by
  intro f hf
  rcases (show f = 0 ∨ f = 1 ∨ f = 2 ∨ f = 3 ∨ f = 4 ∨ f = 5 ∨ f = 6 ∨ f = 7 ∨ f = 8 ∨ f = 9 ∨ f = 10 ∨ f = 11 ∨ f = 12 ∨ f = 13 ∨ f = 14 ∨ f = 15 ∨ f = 16 ∨ f = 17 ∨ f = 18 ∨ f = 19 by omega) with rfl | rfl | rfl | rfl | rfl | rfl | rfl | rfl | rfl | rfl | rfl | rfl | rfl | rfl | rfl | rfl | rfl | rfl | rfl | rfl <;> rfl
theorem cI_Stk (hf : f < 20) : jm_cl (hp V A w B) (72 + 7 * f) = some 6 := cI (sk_Stk f hf)
theorem gI_Stk_values (hf : f < 20) : jm_gf (hp V A w B) (72 + 7 * f) 6 0 = some (.inr (.inl (some (73 + 7 * f)))) := gI_r (sk_Stk f hf) rfl
theorem sk_Stk_values : ∀ f, f < 20 → jx_skI[73 + 7 * f]? = some (.inr (.inl (0, 16))) := by
  intro f hf
  rcases (show f = 0 ∨ f = 1 ∨ f = 2 ∨ f = 3 ∨ f = 4 ∨ f = 5 ∨ f = 6 ∨ f = 7 ∨ f = 8 ∨ f = 9 ∨ f = 10 ∨ f = 11 ∨ f = 12 ∨ f = 13 ∨ f = 14 ∨ f = 15 ∨ f = 16 ∨ f = 17 ∨ f = 18 ∨ f = 19 by omega) with rfl | rfl | rfl | rfl | rfl | rfl | rfl | rfl | rfl | rfl | rfl | rfl | rfl | rfl | rfl | rfl | rfl | rfl | rfl | rfl <;> rfl
theorem aI_Stk_values (hf : f < 20) (hi : jm_in i 16 = true) : jm_al (hp V A w B) (73 + 7 * f) 0 i = some (A (73 + 7 * f) i.toNatClampNeg) := aI (sk_Stk_values f hf) hi
theorem sI_Stk_values (hf : f < 20) (hi : jm_in i 16 = true) : jm_as (hp V A w B) (73 + 7 * f) 0 i x = some (hp V (va_up A (73 + 7 * f) (upd (A (73 + 7 * f)) i.toNatClampNeg x)) w B) := sI (sk_Stk_values f hf) hi
theorem lI_Stk_values (hf : f < 20) : jm_an (hp V A w B) (73 + 7 * f) 4 = some 16 := nI_ (sk_Stk_values f hf) (by decide)
theorem gI_Stk_kinds (hf : f < 20) : jm_gf (hp V A w B) (72 + 7 * f) 6 1 = some (.inr (.inl (some (74 + 7 * f)))) := gI_r (sk_Stk f hf) rfl
theorem sk_Stk_kinds : ∀ f, f < 20 → jx_skI[74 + 7 * f]? = some (.inr (.inl (0, 16))) := by
  intro f hf
  rcases (show f = 0 ∨ f = 1 ∨ f = 2 ∨ f = 3 ∨ f = 4 ∨ f = 5 ∨ f = 6 ∨ f = 7 ∨ f = 8 ∨ f = 9 ∨ f = 10 ∨ f = 11 ∨ f = 12 ∨ f = 13 ∨ f = 14 ∨ f = 15 ∨ f = 16 ∨ f = 17 ∨ f = 18 ∨ f = 19 by omega) with rfl | rfl | rfl | rfl | rfl | rfl | rfl | rfl | rfl | rfl | rfl | rfl | rfl | rfl | rfl | rfl | rfl | rfl | rfl | rfl <;> rfl
theorem aI_Stk_kinds (hf : f < 20) (hi : jm_in i 16 = true) : jm_al (hp V A w B) (74 + 7 * f) 0 i = some (A (74 + 7 * f) i.toNatClampNeg) := aI (sk_Stk_kinds f hf) hi
theorem sI_Stk_kinds (hf : f < 20) (hi : jm_in i 16 = true) : jm_as (hp V A w B) (74 + 7 * f) 0 i x = some (hp V (va_up A (74 + 7 * f) (upd (A (74 + 7 * f)) i.toNatClampNeg x)) w B) := sI (sk_Stk_kinds f hf) hi
theorem lI_Stk_kinds (hf : f < 20) : jm_an (hp V A w B) (74 + 7 * f) 4 = some 16 := nI_ (sk_Stk_kinds f hf) (by decide)
theorem gI_Stk_size (hf : f < 20) : jm_gf (hp V A w B) (72 + 7 * f) 6 2 = some (.inl (V (72 + 7 * f) 2)) := gI_i (sk_Stk f hf) rfl
theorem pI_Stk_size (hf : f < 20) : jm_pf (hp V A w B) (72 + 7 * f) 6 2 0 (.inl x) = some (hp (va_up V (72 + 7 * f) (upd (V (72 + 7 * f)) 2 x)) A w B) := pI (sk_Stk f hf) rfl rfl
theorem sk_Loc : ∀ f, f < 20 → jx_skI[75 + 7 * f]? = some (.inl (6, [some (.inr (.inl (some (76 + 7 * f)))), some (.inr (.inl (some (77 + 7 * f)))), none])) := by
  intro f hf
  rcases (show f = 0 ∨ f = 1 ∨ f = 2 ∨ f = 3 ∨ f = 4 ∨ f = 5 ∨ f = 6 ∨ f = 7 ∨ f = 8 ∨ f = 9 ∨ f = 10 ∨ f = 11 ∨ f = 12 ∨ f = 13 ∨ f = 14 ∨ f = 15 ∨ f = 16 ∨ f = 17 ∨ f = 18 ∨ f = 19 by omega) with rfl | rfl | rfl | rfl | rfl | rfl | rfl | rfl | rfl | rfl | rfl | rfl | rfl | rfl | rfl | rfl | rfl | rfl | rfl | rfl <;> rfl
theorem cI_Loc (hf : f < 20) : jm_cl (hp V A w B) (75 + 7 * f) = some 6 := cI (sk_Loc f hf)
theorem gI_Loc_values (hf : f < 20) : jm_gf (hp V A w B) (75 + 7 * f) 6 0 = some (.inr (.inl (some (76 + 7 * f)))) := gI_r (sk_Loc f hf) rfl
theorem sk_Loc_values : ∀ f, f < 20 → jx_skI[76 + 7 * f]? = some (.inr (.inl (0, 8))) := by
  intro f hf
  rcases (show f = 0 ∨ f = 1 ∨ f = 2 ∨ f = 3 ∨ f = 4 ∨ f = 5 ∨ f = 6 ∨ f = 7 ∨ f = 8 ∨ f = 9 ∨ f = 10 ∨ f = 11 ∨ f = 12 ∨ f = 13 ∨ f = 14 ∨ f = 15 ∨ f = 16 ∨ f = 17 ∨ f = 18 ∨ f = 19 by omega) with rfl | rfl | rfl | rfl | rfl | rfl | rfl | rfl | rfl | rfl | rfl | rfl | rfl | rfl | rfl | rfl | rfl | rfl | rfl | rfl <;> rfl
theorem aI_Loc_values (hf : f < 20) (hi : jm_in i 8 = true) : jm_al (hp V A w B) (76 + 7 * f) 0 i = some (A (76 + 7 * f) i.toNatClampNeg) := aI (sk_Loc_values f hf) hi
theorem sI_Loc_values (hf : f < 20) (hi : jm_in i 8 = true) : jm_as (hp V A w B) (76 + 7 * f) 0 i x = some (hp V (va_up A (76 + 7 * f) (upd (A (76 + 7 * f)) i.toNatClampNeg x)) w B) := sI (sk_Loc_values f hf) hi
theorem lI_Loc_values (hf : f < 20) : jm_an (hp V A w B) (76 + 7 * f) 4 = some 8 := nI_ (sk_Loc_values f hf) (by decide)
theorem gI_Loc_kinds (hf : f < 20) : jm_gf (hp V A w B) (75 + 7 * f) 6 1 = some (.inr (.inl (some (77 + 7 * f)))) := gI_r (sk_Loc f hf) rfl
theorem sk_Loc_kinds : ∀ f, f < 20 → jx_skI[77 + 7 * f]? = some (.inr (.inl (0, 8))) := by
  intro f hf
  rcases (show f = 0 ∨ f = 1 ∨ f = 2 ∨ f = 3 ∨ f = 4 ∨ f = 5 ∨ f = 6 ∨ f = 7 ∨ f = 8 ∨ f = 9 ∨ f = 10 ∨ f = 11 ∨ f = 12 ∨ f = 13 ∨ f = 14 ∨ f = 15 ∨ f = 16 ∨ f = 17 ∨ f = 18 ∨ f = 19 by omega) with rfl | rfl | rfl | rfl | rfl | rfl | rfl | rfl | rfl | rfl | rfl | rfl | rfl | rfl | rfl | rfl | rfl | rfl | rfl | rfl <;> rfl
theorem aI_Loc_kinds (hf : f < 20) (hi : jm_in i 8 = true) : jm_al (hp V A w B) (77 + 7 * f) 0 i = some (A (77 + 7 * f) i.toNatClampNeg) := aI (sk_Loc_kinds f hf) hi
theorem sI_Loc_kinds (hf : f < 20) (hi : jm_in i 8 = true) : jm_as (hp V A w B) (77 + 7 * f) 0 i x = some (hp V (va_up A (77 + 7 * f) (upd (A (77 + 7 * f)) i.toNatClampNeg x)) w B) := sI (sk_Loc_kinds f hf) hi
theorem lI_Loc_kinds (hf : f < 20) : jm_an (hp V A w B) (77 + 7 * f) 4 = some 8 := nI_ (sk_Loc_kinds f hf) (by decide)
theorem gI_Loc_size (hf : f < 20) : jm_gf (hp V A w B) (75 + 7 * f) 6 2 = some (.inl (V (75 + 7 * f) 2)) := gI_i (sk_Loc f hf) rfl
theorem pI_Loc_size (hf : f < 20) : jm_pf (hp V A w B) (75 + 7 * f) 6 2 0 (.inl x) = some (hp (va_up V (75 + 7 * f) (upd (V (75 + 7 * f)) 2 x)) A w B) := pI (sk_Loc f hf) rfl rfl
end CL
