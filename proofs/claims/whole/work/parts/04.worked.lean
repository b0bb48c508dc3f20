/-! the reference's own arithmetic, which it does in longs -/
def jm_wk (op a b : Int32) : Int32 := if op = 6 then a + b else if op = 7 then a - b else if op = 8 then a * b else if op = 9 then a / b else if op = 10 then a - a / b * b else if op = 11 then a &&& b else if op = 12 then a ||| b else if op = 13 then a ^^^ b else if op = 14 then a <<< (b &&& 31) else if op = 15 then a >>> (b &&& 31) else if op = 16 then (if a < b then 1 else 0) else (if a = b then 1 else 0)
def jk_work : jm_I := fun _ pc L S σ => match S with
  | .inl b :: .inl a :: .inl op :: S' => if ((op = 9 ∨ op = 10) ∧ b = 0) ∨ 8 < S'.length then none else jm_nx (pc + 3) L (.inl (jm_wk op a b) :: S') σ
  | _ => none
theorem jo_work {y pc idx : Nat} (hd : decode (jm_by y) pc = .ok (.invokestatic idx, 3)) (hl : Cond.methodLink (jm_nm y).cls idx ⟨"StackRunModel", "worked", "(III)I"⟩ ∈ jm_gw) (hs : Cond.static ⟨"StackRunModel", "worked", "(III)I"⟩ ∈ jm_gw) : jm_Ok y pc jk_work := by
  sorry
