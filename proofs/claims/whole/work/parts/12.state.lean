/-! THE CELLS OF THE LAW: 217 of the class, 25 of the reference; all references in them stay, the numbers are functions -/
abbrev jx_Sh : Type := (Nat × List (Option jm_V)) ⊕ ((Nat × Nat) ⊕ (Nat × List (Option Nat)))
def jx_fs (V : Nat → Int32) : Nat → List (Option jm_V) → List jm_V
  | _, [] => []
  | k, none :: r => .inl (V k) :: jx_fs V (k + 1) r
  | k, some v :: r => v :: jx_fs V (k + 1) r
def jx_ce (V : Nat → Int32) (A : Nat → Int32) (s : jx_Sh) : jm_C := match s with
  | .inl q => .inl (q.1, jx_fs V 0 q.2)
  | .inr (.inl q) => .inr (.inl (q.1, q.2, A))
  | .inr (.inr q) => .inr (.inr q)
def jx_hp (V A : Nat → Nat → Int32) : Nat → List jx_Sh → jm_H
  | _, [] => []
  | k, s :: r => jx_ce (V k) (A k) s :: jx_hp V A (k + 1) r
theorem jx_hp_get (V A : Nat → Nat → Int32) : ∀ (l : List jx_Sh) (k i : Nat), (jx_hp V A k l)[i]? = (l[i]?).map (fun s => jx_ce (V (k + i)) (A (k + i)) s) := by
  intro l
  induction l with
  | nil => intro k i; simp [jx_hp]
  | cons c r ih =>
    intro k i
    cases i with
    | zero => simp [jx_hp]
    | succ i =>
      simp only [jx_hp, List.getElem?_cons_succ]
      rw [ih (k + 1) i]
      rw [show k + 1 + i = k + (i + 1) by omega]
theorem jx_hp_len (V A : Nat → Nat → Int32) : ∀ (l : List jx_Sh) (k : Nat), (jx_hp V A k l).length = l.length := by
  intro l
  induction l with
  | nil => intro k; rfl
  | cons c r ih => intro k; simp only [jx_hp, List.length_cons]; rw [ih]
theorem jx_hp_congr {V A V' A' : Nat → Nat → Int32} : ∀ (l : List jx_Sh) (k : Nat), (∀ j s, l[j]? = some s → jx_ce (V (k + j)) (A (k + j)) s = jx_ce (V' (k + j)) (A' (k + j)) s) → jx_hp V A k l = jx_hp V' A' k l := by
  intro l k h
  apply List.ext_getElem?
  intro i
  rw [jx_hp_get, jx_hp_get]
  cases hi : l[i]? with
  | none => rfl
  | some s => simp only [Option.map_some]; rw [h i s hi]
theorem jx_hp_set {V A V' A' : Nat → Nat → Int32} (l : List jx_Sh) (k i : Nat) (c : jm_C) (h : ∀ j s, l[j]? = some s → (if j = i then c else jx_ce (V (k + j)) (A (k + j)) s) = jx_ce (V' (k + j)) (A' (k + j)) s) : (jx_hp V A k l).set i c = jx_hp V' A' k l := by
  apply List.ext_getElem?
  intro j
  rw [List.getElem?_set, jx_hp_get, jx_hp_get, jx_hp_len]
  cases hj : l[j]? with
  | none =>
    have hl : l.length ≤ j := by simpa using hj
    by_cases e : i = j
    · subst e
      rw [if_pos rfl, if_neg (by omega)]
      rfl
    · rw [if_neg e]
      rfl
  | some s =>
    have hl : j < l.length := (List.getElem?_eq_some_iff.mp hj).1
    have q := h j s hj
    by_cases e : i = j
    · subst e
      rw [if_pos rfl, if_pos hl]
      rw [if_pos rfl] at q
      rw [q]
      rfl
    · rw [if_neg e]
      rw [if_neg (fun z => e z.symm)] at q
      rw [Option.map_some, q]
      rfl
theorem jx_fs_get (V : Nat → Int32) : ∀ (fs : List (Option jm_V)) (k i : Nat), (jx_fs V k fs)[i]? = (fs[i]?).map (fun o => match o with
  | none => .inl (V (k + i))
  | some v => v) := by
  intro fs
  induction fs with
  | nil => intro k i; simp [jx_fs]
  | cons o r ih =>
    intro k i
    cases i with
    | zero => cases o <;> simp [jx_fs]
    | succ i =>
      cases o <;>
      · simp only [jx_fs, List.getElem?_cons_succ]
        rw [ih (k + 1) i]
        rw [show k + 1 + i = k + (i + 1) by omega]
theorem jx_fs_len (V : Nat → Int32) : ∀ (fs : List (Option jm_V)) (k : Nat), (jx_fs V k fs).length = fs.length := by
  intro fs
  induction fs with
  | nil => intro k; rfl
  | cons o r ih => intro k; cases o <;> (simp only [jx_fs, List.length_cons]; rw [ih])
theorem jx_fs_set (V : Nat → Int32) (fs : List (Option jm_V)) (i : Nat) (x : Int32) (h : fs[i]? = some none) : (jx_fs V 0 fs).set i (.inl x) = jx_fs (upd V i x) 0 fs := by
  apply List.ext_getElem?
  intro j
  rw [List.getElem?_set, jx_fs_get, jx_fs_get, jx_fs_len, Nat.zero_add]
  by_cases e : i = j
  · subst e
    have hl : i < fs.length := (List.getElem?_eq_some_iff.mp h).1
    rw [if_pos rfl, if_pos hl, h]
    simp [upd]
  · rw [if_neg e]
    cases hj : fs[j]? with
    | none => rfl
    | some o =>
      cases o with
      | none => simp [upd, Ne.symm e]
      | some v => rfl
theorem va_up_id {α : Type} (f : Nat → α) (k : Nat) : va_up f k (f k) = f := by
  funext j
  unfold va_up
  split
  · rename_i h; rw [h]
  · rfl
def jx_skI : List jx_Sh := [.inl (0, [some (.inr (.inl (some 1))), some (.inr (.inl (some 67))), some (.inr (.inl (some 69)))]),
  .inl (1, [some (.inr (.inl (some 2))), none]),
  .inr (.inr (2, [some 3, some 11, some 19, some 27, some 35, some 43, some 51, some 59])),
  .inl (2, [some (.inr (.inl (some 4))), some (.inr (.inl (some 5))), some (.inr (.inl (some 6))), some (.inr (.inl (some 7))), some (.inr (.inl (some 8))), some (.inr (.inl (some 9))), some (.inr (.inl (some 10))), none, none, none, none, none]),
  .inr (.inl (0, 100)),
  .inr (.inl (0, 100)),
  .inr (.inl (0, 4)),
  .inr (.inl (0, 4)),
  .inr (.inl (0, 4)),
  .inr (.inl (0, 4)),
  .inr (.inl (1, 4)),
  .inl (2, [some (.inr (.inl (some 12))), some (.inr (.inl (some 13))), some (.inr (.inl (some 14))), some (.inr (.inl (some 15))), some (.inr (.inl (some 16))), some (.inr (.inl (some 17))), some (.inr (.inl (some 18))), none, none, none, none, none]),
  .inr (.inl (0, 100)),
  .inr (.inl (0, 100)),
  .inr (.inl (0, 4)),
  .inr (.inl (0, 4)),
  .inr (.inl (0, 4)),
  .inr (.inl (0, 4)),
  .inr (.inl (1, 4)),
  .inl (2, [some (.inr (.inl (some 20))), some (.inr (.inl (some 21))), some (.inr (.inl (some 22))), some (.inr (.inl (some 23))), some (.inr (.inl (some 24))), some (.inr (.inl (some 25))), some (.inr (.inl (some 26))), none, none, none, none, none]),
  .inr (.inl (0, 100)),
  .inr (.inl (0, 100)),
  .inr (.inl (0, 4)),
  .inr (.inl (0, 4)),
  .inr (.inl (0, 4)),
  .inr (.inl (0, 4)),
  .inr (.inl (1, 4)),
  .inl (2, [some (.inr (.inl (some 28))), some (.inr (.inl (some 29))), some (.inr (.inl (some 30))), some (.inr (.inl (some 31))), some (.inr (.inl (some 32))), some (.inr (.inl (some 33))), some (.inr (.inl (some 34))), none, none, none, none, none]),
  .inr (.inl (0, 100)),
  .inr (.inl (0, 100)),
  .inr (.inl (0, 4)),
  .inr (.inl (0, 4)),
  .inr (.inl (0, 4)),
  .inr (.inl (0, 4)),
  .inr (.inl (1, 4)),
  .inl (2, [some (.inr (.inl (some 36))), some (.inr (.inl (some 37))), some (.inr (.inl (some 38))), some (.inr (.inl (some 39))), some (.inr (.inl (some 40))), some (.inr (.inl (some 41))), some (.inr (.inl (some 42))), none, none, none, none, none]),
  .inr (.inl (0, 100)),
  .inr (.inl (0, 100)),
  .inr (.inl (0, 4)),
  .inr (.inl (0, 4)),
  .inr (.inl (0, 4)),
  .inr (.inl (0, 4)),
  .inr (.inl (1, 4)),
  .inl (2, [some (.inr (.inl (some 44))), some (.inr (.inl (some 45))), some (.inr (.inl (some 46))), some (.inr (.inl (some 47))), some (.inr (.inl (some 48))), some (.inr (.inl (some 49))), some (.inr (.inl (some 50))), none, none, none, none, none]),
  .inr (.inl (0, 100)),
  .inr (.inl (0, 100)),
  .inr (.inl (0, 4)),
  .inr (.inl (0, 4)),
  .inr (.inl (0, 4)),
  .inr (.inl (0, 4)),
  .inr (.inl (1, 4)),
  .inl (2, [some (.inr (.inl (some 52))), some (.inr (.inl (some 53))), some (.inr (.inl (some 54))), some (.inr (.inl (some 55))), some (.inr (.inl (some 56))), some (.inr (.inl (some 57))), some (.inr (.inl (some 58))), none, none, none, none, none]),
  .inr (.inl (0, 100)),
  .inr (.inl (0, 100)),
  .inr (.inl (0, 4)),
  .inr (.inl (0, 4)),
  .inr (.inl (0, 4)),
  .inr (.inl (0, 4)),
  .inr (.inl (1, 4)),
  .inl (2, [some (.inr (.inl (some 60))), some (.inr (.inl (some 61))), some (.inr (.inl (some 62))), some (.inr (.inl (some 63))), some (.inr (.inl (some 64))), some (.inr (.inl (some 65))), some (.inr (.inl (some 66))), none, none, none, none, none]),
  .inr (.inl (0, 100)),
  .inr (.inl (0, 100)),
  .inr (.inl (0, 4)),
  .inr (.inl (0, 4)),
  .inr (.inl (0, 4)),
  .inr (.inl (0, 4)),
  .inr (.inl (1, 4)),
  .inl (3, [some (.inr (.inl (some 68))), none]),
  .inr (.inl (0, 64)),
  .inl (4, [some (.inr (.inl (some 1))), some (.inr (.inl (some 67))), some (.inr (.inl (some 70))), some (.inr (.inl (some 211))), some (.inr (.inl (some 215))), none, none, none, none, none, none, none]),
  .inr (.inr (3, [some 71, some 78, some 85, some 92, some 99, some 106, some 113, some 120, some 127, some 134, some 141, some 148, some 155, some 162, some 169, some 176, some 183, some 190, some 197, some 204])),
  .inl (5, [some (.inr (.inl (some 72))), some (.inr (.inl (some 75))), none, none]),
  .inl (6, [some (.inr (.inl (some 73))), some (.inr (.inl (some 74))), none]),
  .inr (.inl (0, 16)),
  .inr (.inl (0, 16)),
  .inl (6, [some (.inr (.inl (some 76))), some (.inr (.inl (some 77))), none]),
  .inr (.inl (0, 8)),
  .inr (.inl (0, 8)),
  .inl (5, [some (.inr (.inl (some 79))), some (.inr (.inl (some 82))), none, none]),
  .inl (6, [some (.inr (.inl (some 80))), some (.inr (.inl (some 81))), none]),
  .inr (.inl (0, 16)),
  .inr (.inl (0, 16)),
  .inl (6, [some (.inr (.inl (some 83))), some (.inr (.inl (some 84))), none]),
  .inr (.inl (0, 8)),
  .inr (.inl (0, 8)),
  .inl (5, [some (.inr (.inl (some 86))), some (.inr (.inl (some 89))), none, none]),
  .inl (6, [some (.inr (.inl (some 87))), some (.inr (.inl (some 88))), none]),
  .inr (.inl (0, 16)),
  .inr (.inl (0, 16)),
  .inl (6, [some (.inr (.inl (some 90))), some (.inr (.inl (some 91))), none]),
  .inr (.inl (0, 8)),
  .inr (.inl (0, 8)),
  .inl (5, [some (.inr (.inl (some 93))), some (.inr (.inl (some 96))), none, none]),
  .inl (6, [some (.inr (.inl (some 94))), some (.inr (.inl (some 95))), none]),
  .inr (.inl (0, 16)),
  .inr (.inl (0, 16)),
  .inl (6, [some (.inr (.inl (some 97))), some (.inr (.inl (some 98))), none]),
  .inr (.inl (0, 8)),
  .inr (.inl (0, 8)),
  .inl (5, [some (.inr (.inl (some 100))), some (.inr (.inl (some 103))), none, none]),
  .inl (6, [some (.inr (.inl (some 101))), some (.inr (.inl (some 102))), none]),
  .inr (.inl (0, 16)),
  .inr (.inl (0, 16)),
  .inl (6, [some (.inr (.inl (some 104))), some (.inr (.inl (some 105))), none]),
  .inr (.inl (0, 8)),
  .inr (.inl (0, 8)),
  .inl (5, [some (.inr (.inl (some 107))), some (.inr (.inl (some 110))), none, none]),
  .inl (6, [some (.inr (.inl (some 108))), some (.inr (.inl (some 109))), none]),
  .inr (.inl (0, 16)),
  .inr (.inl (0, 16)),
  .inl (6, [some (.inr (.inl (some 111))), some (.inr (.inl (some 112))), none]),
  .inr (.inl (0, 8)),
  .inr (.inl (0, 8)),
  .inl (5, [some (.inr (.inl (some 114))), some (.inr (.inl (some 117))), none, none]),
  .inl (6, [some (.inr (.inl (some 115))), some (.inr (.inl (some 116))), none]),
  .inr (.inl (0, 16)),
  .inr (.inl (0, 16)),
  .inl (6, [some (.inr (.inl (some 118))), some (.inr (.inl (some 119))), none]),
  .inr (.inl (0, 8)),
  .inr (.inl (0, 8)),
  .inl (5, [some (.inr (.inl (some 121))), some (.inr (.inl (some 124))), none, none]),
  .inl (6, [some (.inr (.inl (some 122))), some (.inr (.inl (some 123))), none]),
  .inr (.inl (0, 16)),
  .inr (.inl (0, 16)),
  .inl (6, [some (.inr (.inl (some 125))), some (.inr (.inl (some 126))), none]),
  .inr (.inl (0, 8)),
  .inr (.inl (0, 8)),
  .inl (5, [some (.inr (.inl (some 128))), some (.inr (.inl (some 131))), none, none]),
  .inl (6, [some (.inr (.inl (some 129))), some (.inr (.inl (some 130))), none]),
  .inr (.inl (0, 16)),
  .inr (.inl (0, 16)),
  .inl (6, [some (.inr (.inl (some 132))), some (.inr (.inl (some 133))), none]),
  .inr (.inl (0, 8)),
  .inr (.inl (0, 8)),
  .inl (5, [some (.inr (.inl (some 135))), some (.inr (.inl (some 138))), none, none]),
  .inl (6, [some (.inr (.inl (some 136))), some (.inr (.inl (some 137))), none]),
  .inr (.inl (0, 16)),
  .inr (.inl (0, 16)),
  .inl (6, [some (.inr (.inl (some 139))), some (.inr (.inl (some 140))), none]),
  .inr (.inl (0, 8)),
  .inr (.inl (0, 8)),
  .inl (5, [some (.inr (.inl (some 142))), some (.inr (.inl (some 145))), none, none]),
  .inl (6, [some (.inr (.inl (some 143))), some (.inr (.inl (some 144))), none]),
  .inr (.inl (0, 16)),
  .inr (.inl (0, 16)),
  .inl (6, [some (.inr (.inl (some 146))), some (.inr (.inl (some 147))), none]),
  .inr (.inl (0, 8)),
  .inr (.inl (0, 8)),
  .inl (5, [some (.inr (.inl (some 149))), some (.inr (.inl (some 152))), none, none]),
  .inl (6, [some (.inr (.inl (some 150))), some (.inr (.inl (some 151))), none]),
  .inr (.inl (0, 16)),
  .inr (.inl (0, 16)),
  .inl (6, [some (.inr (.inl (some 153))), some (.inr (.inl (some 154))), none]),
  .inr (.inl (0, 8)),
  .inr (.inl (0, 8)),
  .inl (5, [some (.inr (.inl (some 156))), some (.inr (.inl (some 159))), none, none]),
  .inl (6, [some (.inr (.inl (some 157))), some (.inr (.inl (some 158))), none]),
  .inr (.inl (0, 16)),
  .inr (.inl (0, 16)),
  .inl (6, [some (.inr (.inl (some 160))), some (.inr (.inl (some 161))), none]),
  .inr (.inl (0, 8)),
  .inr (.inl (0, 8)),
  .inl (5, [some (.inr (.inl (some 163))), some (.inr (.inl (some 166))), none, none]),
  .inl (6, [some (.inr (.inl (some 164))), some (.inr (.inl (some 165))), none]),
  .inr (.inl (0, 16)),
  .inr (.inl (0, 16)),
  .inl (6, [some (.inr (.inl (some 167))), some (.inr (.inl (some 168))), none]),
  .inr (.inl (0, 8)),
  .inr (.inl (0, 8)),
  .inl (5, [some (.inr (.inl (some 170))), some (.inr (.inl (some 173))), none, none]),
  .inl (6, [some (.inr (.inl (some 171))), some (.inr (.inl (some 172))), none]),
  .inr (.inl (0, 16)),
  .inr (.inl (0, 16)),
  .inl (6, [some (.inr (.inl (some 174))), some (.inr (.inl (some 175))), none]),
  .inr (.inl (0, 8)),
  .inr (.inl (0, 8)),
  .inl (5, [some (.inr (.inl (some 177))), some (.inr (.inl (some 180))), none, none]),
  .inl (6, [some (.inr (.inl (some 178))), some (.inr (.inl (some 179))), none]),
  .inr (.inl (0, 16)),
  .inr (.inl (0, 16)),
  .inl (6, [some (.inr (.inl (some 181))), some (.inr (.inl (some 182))), none]),
  .inr (.inl (0, 8)),
  .inr (.inl (0, 8)),
  .inl (5, [some (.inr (.inl (some 184))), some (.inr (.inl (some 187))), none, none]),
  .inl (6, [some (.inr (.inl (some 185))), some (.inr (.inl (some 186))), none]),
  .inr (.inl (0, 16)),
  .inr (.inl (0, 16)),
  .inl (6, [some (.inr (.inl (some 188))), some (.inr (.inl (some 189))), none]),
  .inr (.inl (0, 8)),
  .inr (.inl (0, 8)),
  .inl (5, [some (.inr (.inl (some 191))), some (.inr (.inl (some 194))), none, none]),
  .inl (6, [some (.inr (.inl (some 192))), some (.inr (.inl (some 193))), none]),
  .inr (.inl (0, 16)),
  .inr (.inl (0, 16)),
  .inl (6, [some (.inr (.inl (some 195))), some (.inr (.inl (some 196))), none]),
  .inr (.inl (0, 8)),
  .inr (.inl (0, 8)),
  .inl (5, [some (.inr (.inl (some 198))), some (.inr (.inl (some 201))), none, none]),
  .inl (6, [some (.inr (.inl (some 199))), some (.inr (.inl (some 200))), none]),
  .inr (.inl (0, 16)),
  .inr (.inl (0, 16)),
  .inl (6, [some (.inr (.inl (some 202))), some (.inr (.inl (some 203))), none]),
  .inr (.inl (0, 8)),
  .inr (.inl (0, 8)),
  .inl (5, [some (.inr (.inl (some 205))), some (.inr (.inl (some 208))), none, none]),
  .inl (6, [some (.inr (.inl (some 206))), some (.inr (.inl (some 207))), none]),
  .inr (.inl (0, 16)),
  .inr (.inl (0, 16)),
  .inl (6, [some (.inr (.inl (some 209))), some (.inr (.inl (some 210))), none]),
  .inr (.inl (0, 8)),
  .inr (.inl (0, 8)),
  .inl (7, [some (.inr (.inl (some 212))), some (.inr (.inl (some 213))), some (.inr (.inl (some 214))), none, none]),
  .inr (.inl (0, 1024)),
  .inr (.inl (0, 500)),
  .inr (.inl (0, 500)),
  .inl (8, [some (.inr (.inl (some 216))), none]),
  .inr (.inl (0, 320))]
def jx_skR : List jx_Sh := [.inl (9, [none, none, some (.inr (.inl (some 218))), some (.inr (.inl (some 219))), some (.inr (.inl (some 220))), some (.inr (.inl (some 221))), some (.inr (.inl (some 222))), some (.inr (.inl (some 223))), some (.inr (.inl (some 224))), some (.inr (.inl (some 225))), some (.inr (.inl (some 226))), some (.inr (.inl (some 227))), some (.inr (.inl (some 228))), some (.inr (.inl (some 229))), some (.inr (.inl (some 230))), none, none, none, none, none, none, none, none, some (.inr (.inl (some 231))), some (.inr (.inl (some 232))), some (.inr (.inl (some 233))), some (.inr (.inl (some 234))), some (.inr (.inl (some 235))), some (.inr (.inl (some 236))), some (.inr (.inl (some 237))), none, none, some (.inr (.inl (some 238))), some (.inr (.inl (some 239))), some (.inr (.inl (some 240))), some (.inr (.inl (some 241)))]),
  .inr (.inl (0, 8)),
  .inr (.inl (0, 8)),
  .inr (.inl (0, 8)),
  .inr (.inl (0, 8)),
  .inr (.inl (0, 800)),
  .inr (.inl (0, 800)),
  .inr (.inl (0, 8)),
  .inr (.inl (0, 32)),
  .inr (.inl (0, 32)),
  .inr (.inl (0, 32)),
  .inr (.inl (1, 32)),
  .inr (.inl (0, 32)),
  .inr (.inl (0, 64)),
  .inr (.inl (0, 20)),
  .inr (.inl (0, 20)),
  .inr (.inl (0, 20)),
  .inr (.inl (0, 320)),
  .inr (.inl (0, 320)),
  .inr (.inl (0, 160)),
  .inr (.inl (0, 160)),
  .inr (.inl (0, 501)),
  .inr (.inl (0, 501)),
  .inr (.inl (0, 1024)),
  .inr (.inl (0, 320))]
theorem jx_une {α : Type} {f : Nat → α} {k j : Nat} {v : α} (h : j ≠ k) : va_up f k v j = f j := if_neg h
/-- the whole heap: of the class (V: an object's numbers, A: an array's), of the reference (w, B) -/
def hp (V A : Nat → Nat → Int32) (w : Nat → Int32) (B : Nat → Nat → Int32) : jm_H := jx_hp V A 0 jx_skI ++ jx_hp (fun _ => w) B 217 jx_skR
section HP
variable {V A : Nat → Nat → Int32} {w : Nat → Int32} {B : Nat → Nat → Int32} {a ci k kd t n nt : Nat} {fs : List (Option jm_V)} {rs : List (Option Nat)} {v : jm_V} {x i : Int32} {s : jx_Sh}
theorem hp_lenI : (jx_hp V A 0 jx_skI).length = 217 := by rw [jx_hp_len]; rfl
theorem hp_I (h : jx_skI[a]? = some s) : (hp V A w B)[a]? = some (jx_ce (V a) (A a) s) := by
  have hl : a < jx_skI.length := (List.getElem?_eq_some_iff.mp h).1
  unfold hp
  rw [List.getElem?_append_left (by rw [jx_hp_len]; exact hl), jx_hp_get, h, Nat.zero_add]
  rfl
theorem hp_R (h : jx_skR[a]? = some s) : (hp V A w B)[217 + a]? = some (jx_ce w (B (217 + a)) s) := by
  unfold hp
  rw [List.getElem?_append_right (by rw [hp_lenI]; omega), hp_lenI, Nat.add_sub_cancel_left, jx_hp_get, h]
  rfl
theorem hp_setI {V' A' : Nat → Nat → Int32} {c : jm_C} (h : jx_skI[a]? = some s) (hs : ∀ j s, jx_skI[j]? = some s → (if j = a then c else jx_ce (V j) (A j) s) = jx_ce (V' j) (A' j) s) : (hp V A w B).set a c = hp V' A' w B := by
  have hl : a < jx_skI.length := (List.getElem?_eq_some_iff.mp h).1
  unfold hp
  rw [List.set_append_left _ _ (by rw [jx_hp_len]; exact hl)]
  congr 1
  exact jx_hp_set jx_skI 0 a c (fun j s hj => by rw [Nat.zero_add]; exact hs j s hj)
theorem hp_setR {w' : Nat → Int32} {B' : Nat → Nat → Int32} {c : jm_C} (hs : ∀ j s, jx_skR[j]? = some s → (if j = a then c else jx_ce w (B (217 + j)) s) = jx_ce w' (B' (217 + j)) s) : (hp V A w B).set (217 + a) c = hp V A w' B' := by
  unfold hp
  rw [List.set_append_right _ _ (by rw [hp_lenI]; omega), hp_lenI, Nat.add_sub_cancel_left]
  congr 1
  exact jx_hp_set jx_skR 217 a c hs
/-! reading and writing in the class's cells -/
theorem gI_i (h : jx_skI[a]? = some (.inl (ci, fs))) (hk : fs[k]? = some none) : jm_gf (hp V A w B) a ci k = some (.inl (V a k)) := by
  unfold jm_gf
  rw [hp_I h]
  simp only [jx_ce, if_true]
  rw [jx_fs_get, hk, Nat.zero_add]
  rfl
theorem gI_r (h : jx_skI[a]? = some (.inl (ci, fs))) (hk : fs[k]? = some (some v)) : jm_gf (hp V A w B) a ci k = some v := by
  unfold jm_gf
  rw [hp_I h]
  simp only [jx_ce, if_true]
  rw [jx_fs_get, hk]
  rfl
theorem cI (h : jx_skI[a]? = some (.inl (ci, fs))) : jm_cl (hp V A w B) a = some ci := by
  unfold jm_cl
  rw [hp_I h]
  rfl
theorem pI (h : jx_skI[a]? = some (.inl (ci, fs))) (hk : fs[k]? = some none) (hf : jm_fit kd (.inl x) = true) : jm_pf (hp V A w B) a ci k kd (.inl x) = some (hp (va_up V a (upd (V a) k x)) A w B) := by
  unfold jm_pf
  rw [hp_I h]
  have hl : k < fs.length := (List.getElem?_eq_some_iff.mp hk).1
  simp only [jx_ce]
  rw [if_pos ⟨trivial, by rw [jx_fs_len]; exact hl, hf⟩]
  congr 1
  refine hp_setI h (fun j s hj => ?_)
  by_cases e : j = a
  · subst e
    rw [if_pos rfl]
    cases h.symm.trans hj
    rw [va_up_self, jx_fs_set _ _ _ _ hk]
    rfl
  · rw [if_neg e, jx_une e]
theorem aI (h : jx_skI[a]? = some (.inr (.inl (t, n)))) (hi : jm_in i n = true) : jm_al (hp V A w B) a t i = some (A a i.toNatClampNeg) := by
  unfold jm_al
  rw [hp_I h]
  simp only [jx_ce, true_and, if_pos hi]
theorem sI (h : jx_skI[a]? = some (.inr (.inl (t, n)))) (hi : jm_in i n = true) : jm_as (hp V A w B) a t i x = some (hp V (va_up A a (upd (A a) i.toNatClampNeg x)) w B) := by
  unfold jm_as
  rw [hp_I h]
  simp only [jx_ce, true_and, if_pos hi]
  congr 1
  refine hp_setI h (fun j s hj => ?_)
  by_cases e : j = a
  · subst e
    rw [if_pos rfl]
    cases h.symm.trans hj
    rw [va_up_self]
    rfl
  · rw [if_neg e, jx_une e]
theorem qI (h : jx_skI[a]? = some (.inr (.inr (t, rs)))) (hi : jm_in i rs.length = true) : jm_ar (hp V A w B) a t i = some (rs[i.toNatClampNeg]?).join := by
  unfold jm_ar
  rw [hp_I h]
  simp only [jx_ce, true_and, if_pos hi]
theorem nI_ (h : jx_skI[a]? = some (.inr (.inl (t, n)))) (ht : t < nt) : jm_an (hp V A w B) a nt = some (Int32.ofNat n) := by
  unfold jm_an
  rw [hp_I h]
  simp only [jx_ce, if_pos ht]
/-! and in the reference's -/
theorem gR_i (h : jx_skR[a]? = some (.inl (ci, fs))) (hk : fs[k]? = some none) : jm_gf (hp V A w B) (217 + a) ci k = some (.inl (w k)) := by
  unfold jm_gf
  rw [hp_R h]
  simp only [jx_ce, if_true]
  rw [jx_fs_get, hk, Nat.zero_add]
  rfl
theorem gR_r (h : jx_skR[a]? = some (.inl (ci, fs))) (hk : fs[k]? = some (some v)) : jm_gf (hp V A w B) (217 + a) ci k = some v := by
  unfold jm_gf
  rw [hp_R h]
  simp only [jx_ce, if_true]
  rw [jx_fs_get, hk]
  rfl
theorem cR (h : jx_skR[a]? = some (.inl (ci, fs))) : jm_cl (hp V A w B) (217 + a) = some ci := by
  unfold jm_cl
  rw [hp_R h]
  rfl
theorem jx_one : ∀ j q, jx_skR[j]? = some (.inl q) → j = 0 := by
  intro j q h
  have key : ∀ j, j < 25 → 0 < j → (match jx_skR[j]? with
    | some (.inl _) => false
    | _ => true) = true := by decide +kernel
  rcases Nat.eq_zero_or_pos j with h0 | h0
  · exact h0
  · have hl : j < 25 := (List.getElem?_eq_some_iff.mp h).1
    have := key j hl h0
    rw [h] at this
    cases this
theorem pR (h : jx_skR[0]? = some (.inl (ci, fs))) (hk : fs[k]? = some none) (hf : jm_fit kd (.inl x) = true) : jm_pf (hp V A w B) 217 ci k kd (.inl x) = some (hp V A (upd w k x) B) := by
  unfold jm_pf
  rw [show (217 : Nat) = 217 + 0 from rfl, hp_R h]
  have hl : k < fs.length := (List.getElem?_eq_some_iff.mp hk).1
  simp only [jx_ce]
  rw [if_pos ⟨trivial, by rw [jx_fs_len]; exact hl, hf⟩]
  congr 1
  refine hp_setR (fun j s hj => ?_)
  by_cases e : j = 0
  · subst e
    rw [if_pos rfl]
    cases h.symm.trans hj
    rw [jx_fs_set _ _ _ _ hk]
    rfl
  · rw [if_neg e]
    rcases s with q | s
    · exact absurd (jx_one j q hj) e
    · rcases s with s | s <;> rfl
theorem aR (h : jx_skR[a]? = some (.inr (.inl (t, n)))) (hi : jm_in i n = true) : jm_al (hp V A w B) (217 + a) t i = some (B (217 + a) i.toNatClampNeg) := by
  unfold jm_al
  rw [hp_R h]
  simp only [jx_ce, true_and, if_pos hi]
theorem sR (h : jx_skR[a]? = some (.inr (.inl (t, n)))) (hi : jm_in i n = true) : jm_as (hp V A w B) (217 + a) t i x = some (hp V A w (va_up B (217 + a) (upd (B (217 + a)) i.toNatClampNeg x))) := by
  unfold jm_as
  rw [hp_R h]
  simp only [jx_ce, true_and, if_pos hi]
  congr 1
  refine hp_setR (fun j s hj => ?_)
  by_cases e : j = a
  · subst e
    rw [if_pos rfl]
    cases h.symm.trans hj
    rw [va_up_self]
    rfl
  · rw [if_neg e, jx_une (by omega)]
end HP
section MR
variable {V A : Nat → Nat → Int32} {w : Nat → Int32} {B : Nat → Nat → Int32} {x i : Int32}
theorem cM : jm_cl (hp V A w B) 217 = some 9 := cR (a := 0) rfl
theorem gM_thrown : jm_gf (hp V A w B) 217 9 0 = some (.inl (w 0)) := gR_i (a := 0) rfl rfl
theorem pM_thrown : jm_pf (hp V A w B) 217 9 0 0 (.inl x) = some (hp V A (upd w 0 x) B) := pR rfl rfl rfl
theorem gM_functions : jm_gf (hp V A w B) 217 9 1 = some (.inl (w 1)) := gR_i (a := 0) rfl rfl
theorem pM_functions : jm_pf (hp V A w B) 217 9 1 0 (.inl x) = some (hp V A (upd w 1 x) B) := pR rfl rfl rfl
theorem gM_params : jm_gf (hp V A w B) 217 9 2 = some (.inr (.inl (some 218))) := gR_r (a := 0) rfl rfl
theorem aM_params (h : jm_in i 8 = true) : jm_al (hp V A w B) 218 0 i = some (B 218 i.toNatClampNeg) := aR (a := 1) rfl h
theorem sM_params (h : jm_in i 8 = true) : jm_as (hp V A w B) 218 0 i x = some (hp V A w (va_up B 218 (upd (B 218) i.toNatClampNeg x))) := sR (a := 1) rfl h
theorem gM_localMany : jm_gf (hp V A w B) 217 9 3 = some (.inr (.inl (some 219))) := gR_r (a := 0) rfl rfl
theorem aM_localMany (h : jm_in i 8 = true) : jm_al (hp V A w B) 219 0 i = some (B 219 i.toNatClampNeg) := aR (a := 2) rfl h
theorem sM_localMany (h : jm_in i 8 = true) : jm_as (hp V A w B) 219 0 i x = some (hp V A w (va_up B 219 (upd (B 219) i.toNatClampNeg x))) := sR (a := 2) rfl h
theorem gM_results : jm_gf (hp V A w B) 217 9 4 = some (.inr (.inl (some 220))) := gR_r (a := 0) rfl rfl
theorem aM_results (h : jm_in i 8 = true) : jm_al (hp V A w B) 220 0 i = some (B 220 i.toNatClampNeg) := aR (a := 3) rfl h
theorem sM_results (h : jm_in i 8 = true) : jm_as (hp V A w B) 220 0 i x = some (hp V A w (va_up B 220 (upd (B 220) i.toNatClampNeg x))) := sR (a := 3) rfl h
theorem gM_sizes : jm_gf (hp V A w B) 217 9 5 = some (.inr (.inl (some 221))) := gR_r (a := 0) rfl rfl
theorem aM_sizes (h : jm_in i 8 = true) : jm_al (hp V A w B) 221 0 i = some (B 221 i.toNatClampNeg) := aR (a := 4) rfl h
theorem sM_sizes (h : jm_in i 8 = true) : jm_as (hp V A w B) 221 0 i x = some (hp V A w (va_up B 221 (upd (B 221) i.toNatClampNeg x))) := sR (a := 4) rfl h
theorem gM_ops : jm_gf (hp V A w B) 217 9 6 = some (.inr (.inl (some 222))) := gR_r (a := 0) rfl rfl
theorem aM_ops (h : jm_in i 800 = true) : jm_al (hp V A w B) 222 0 i = some (B 222 i.toNatClampNeg) := aR (a := 5) rfl h
theorem sM_ops (h : jm_in i 800 = true) : jm_as (hp V A w B) 222 0 i x = some (hp V A w (va_up B 222 (upd (B 222) i.toNatClampNeg x))) := sR (a := 5) rfl h
theorem gM_numbers : jm_gf (hp V A w B) 217 9 7 = some (.inr (.inl (some 223))) := gR_r (a := 0) rfl rfl
theorem aM_numbers (h : jm_in i 800 = true) : jm_al (hp V A w B) 223 0 i = some (B 223 i.toNatClampNeg) := aR (a := 6) rfl h
theorem sM_numbers (h : jm_in i 800 = true) : jm_as (hp V A w B) 223 0 i x = some (hp V A w (va_up B 223 (upd (B 223) i.toNatClampNeg x))) := sR (a := 6) rfl h
theorem gM_handlers : jm_gf (hp V A w B) 217 9 8 = some (.inr (.inl (some 224))) := gR_r (a := 0) rfl rfl
theorem aM_handlers (h : jm_in i 8 = true) : jm_al (hp V A w B) 224 0 i = some (B 224 i.toNatClampNeg) := aR (a := 7) rfl h
theorem sM_handlers (h : jm_in i 8 = true) : jm_as (hp V A w B) 224 0 i x = some (hp V A w (va_up B 224 (upd (B 224) i.toNatClampNeg x))) := sR (a := 7) rfl h
theorem gM_froms : jm_gf (hp V A w B) 217 9 9 = some (.inr (.inl (some 225))) := gR_r (a := 0) rfl rfl
theorem aM_froms (h : jm_in i 32 = true) : jm_al (hp V A w B) 225 0 i = some (B 225 i.toNatClampNeg) := aR (a := 8) rfl h
theorem sM_froms (h : jm_in i 32 = true) : jm_as (hp V A w B) 225 0 i x = some (hp V A w (va_up B 225 (upd (B 225) i.toNatClampNeg x))) := sR (a := 8) rfl h
theorem gM_tos : jm_gf (hp V A w B) 217 9 10 = some (.inr (.inl (some 226))) := gR_r (a := 0) rfl rfl
theorem aM_tos (h : jm_in i 32 = true) : jm_al (hp V A w B) 226 0 i = some (B 226 i.toNatClampNeg) := aR (a := 9) rfl h
theorem sM_tos (h : jm_in i 32 = true) : jm_as (hp V A w B) 226 0 i x = some (hp V A w (va_up B 226 (upd (B 226) i.toNatClampNeg x))) := sR (a := 9) rfl h
theorem gM_targets : jm_gf (hp V A w B) 217 9 11 = some (.inr (.inl (some 227))) := gR_r (a := 0) rfl rfl
theorem aM_targets (h : jm_in i 32 = true) : jm_al (hp V A w B) 227 0 i = some (B 227 i.toNatClampNeg) := aR (a := 10) rfl h
theorem sM_targets (h : jm_in i 32 = true) : jm_as (hp V A w B) 227 0 i x = some (hp V A w (va_up B 227 (upd (B 227) i.toNatClampNeg x))) := sR (a := 10) rfl h
theorem gM_anyCode : jm_gf (hp V A w B) 217 9 12 = some (.inr (.inl (some 228))) := gR_r (a := 0) rfl rfl
theorem aM_anyCode (h : jm_in i 32 = true) : jm_al (hp V A w B) 228 1 i = some (B 228 i.toNatClampNeg) := aR (a := 11) rfl h
theorem sM_anyCode (h : jm_in i 32 = true) : jm_as (hp V A w B) 228 1 i x = some (hp V A w (va_up B 228 (upd (B 228) i.toNatClampNeg x))) := sR (a := 11) rfl h
theorem gM_codes : jm_gf (hp V A w B) 217 9 13 = some (.inr (.inl (some 229))) := gR_r (a := 0) rfl rfl
theorem aM_codes (h : jm_in i 32 = true) : jm_al (hp V A w B) 229 0 i = some (B 229 i.toNatClampNeg) := aR (a := 12) rfl h
theorem sM_codes (h : jm_in i 32 = true) : jm_as (hp V A w B) 229 0 i x = some (hp V A w (va_up B 229 (upd (B 229) i.toNatClampNeg x))) := sR (a := 12) rfl h
theorem gM_answers : jm_gf (hp V A w B) 217 9 14 = some (.inr (.inl (some 230))) := gR_r (a := 0) rfl rfl
theorem aM_answers (h : jm_in i 64 = true) : jm_al (hp V A w B) 230 0 i = some (B 230 i.toNatClampNeg) := aR (a := 13) rfl h
theorem sM_answers (h : jm_in i 64 = true) : jm_as (hp V A w B) 230 0 i x = some (hp V A w (va_up B 230 (upd (B 230) i.toNatClampNeg x))) := sR (a := 13) rfl h
theorem gM_answerMany : jm_gf (hp V A w B) 217 9 15 = some (.inl (w 15)) := gR_i (a := 0) rfl rfl
theorem pM_answerMany : jm_pf (hp V A w B) 217 9 15 0 (.inl x) = some (hp V A (upd w 15 x) B) := pR rfl rfl rfl
theorem gM_isRun : jm_gf (hp V A w B) 217 9 16 = some (.inl (w 16)) := gR_i (a := 0) rfl rfl
theorem pM_isRun (h : x = 0 ∨ x = 1) : jm_pf (hp V A w B) 217 9 16 1 (.inl x) = some (hp V A (upd w 16 x) B) := pR rfl rfl (decide_eq_true h)
theorem gM_ended : jm_gf (hp V A w B) 217 9 17 = some (.inl (w 17)) := gR_i (a := 0) rfl rfl
theorem pM_ended : jm_pf (hp V A w B) 217 9 17 0 (.inl x) = some (hp V A (upd w 17 x) B) := pR rfl rfl rfl
theorem gM_value : jm_gf (hp V A w B) 217 9 18 = some (.inl (w 18)) := gR_i (a := 0) rfl rfl
theorem pM_value : jm_pf (hp V A w B) 217 9 18 0 (.inl x) = some (hp V A (upd w 18 x) B) := pR rfl rfl rfl
theorem gM_steps : jm_gf (hp V A w B) 217 9 19 = some (.inl (w 19)) := gR_i (a := 0) rfl rfl
theorem pM_steps : jm_pf (hp V A w B) 217 9 19 0 (.inl x) = some (hp V A (upd w 19 x) B) := pR rfl rfl rfl
theorem gM_outside : jm_gf (hp V A w B) 217 9 20 = some (.inl (w 20)) := gR_i (a := 0) rfl rfl
theorem pM_outside : jm_pf (hp V A w B) 217 9 20 0 (.inl x) = some (hp V A (upd w 20 x) B) := pR rfl rfl rfl
theorem gM_most : jm_gf (hp V A w B) 217 9 21 = some (.inl (w 21)) := gR_i (a := 0) rfl rfl
theorem pM_most : jm_pf (hp V A w B) 217 9 21 0 (.inl x) = some (hp V A (upd w 21 x) B) := pR rfl rfl rfl
theorem gM_deep : jm_gf (hp V A w B) 217 9 22 = some (.inl (w 22)) := gR_i (a := 0) rfl rfl
theorem pM_deep : jm_pf (hp V A w B) 217 9 22 0 (.inl x) = some (hp V A (upd w 22 x) B) := pR rfl rfl rfl
theorem gM_who : jm_gf (hp V A w B) 217 9 23 = some (.inr (.inl (some 231))) := gR_r (a := 0) rfl rfl
theorem aM_who (h : jm_in i 20 = true) : jm_al (hp V A w B) 231 0 i = some (B 231 i.toNatClampNeg) := aR (a := 14) rfl h
theorem sM_who (h : jm_in i 20 = true) : jm_as (hp V A w B) 231 0 i x = some (hp V A w (va_up B 231 (upd (B 231) i.toNatClampNeg x))) := sR (a := 14) rfl h
theorem gM_place : jm_gf (hp V A w B) 217 9 24 = some (.inr (.inl (some 232))) := gR_r (a := 0) rfl rfl
theorem aM_place (h : jm_in i 20 = true) : jm_al (hp V A w B) 232 0 i = some (B 232 i.toNatClampNeg) := aR (a := 15) rfl h
theorem sM_place (h : jm_in i 20 = true) : jm_as (hp V A w B) 232 0 i x = some (hp V A w (va_up B 232 (upd (B 232) i.toNatClampNeg x))) := sR (a := 15) rfl h
theorem gM_height : jm_gf (hp V A w B) 217 9 25 = some (.inr (.inl (some 233))) := gR_r (a := 0) rfl rfl
theorem aM_height (h : jm_in i 20 = true) : jm_al (hp V A w B) 233 0 i = some (B 233 i.toNatClampNeg) := aR (a := 16) rfl h
theorem sM_height (h : jm_in i 20 = true) : jm_as (hp V A w B) 233 0 i x = some (hp V A w (va_up B 233 (upd (B 233) i.toNatClampNeg x))) := sR (a := 16) rfl h
theorem gM_stack : jm_gf (hp V A w B) 217 9 26 = some (.inr (.inl (some 234))) := gR_r (a := 0) rfl rfl
theorem aM_stack (h : jm_in i 320 = true) : jm_al (hp V A w B) 234 0 i = some (B 234 i.toNatClampNeg) := aR (a := 17) rfl h
theorem sM_stack (h : jm_in i 320 = true) : jm_as (hp V A w B) 234 0 i x = some (hp V A w (va_up B 234 (upd (B 234) i.toNatClampNeg x))) := sR (a := 17) rfl h
theorem gM_stackRows : jm_gf (hp V A w B) 217 9 27 = some (.inr (.inl (some 235))) := gR_r (a := 0) rfl rfl
theorem aM_stackRows (h : jm_in i 320 = true) : jm_al (hp V A w B) 235 0 i = some (B 235 i.toNatClampNeg) := aR (a := 18) rfl h
theorem sM_stackRows (h : jm_in i 320 = true) : jm_as (hp V A w B) 235 0 i x = some (hp V A w (va_up B 235 (upd (B 235) i.toNatClampNeg x))) := sR (a := 18) rfl h
theorem gM_locals : jm_gf (hp V A w B) 217 9 28 = some (.inr (.inl (some 236))) := gR_r (a := 0) rfl rfl
theorem aM_locals (h : jm_in i 160 = true) : jm_al (hp V A w B) 236 0 i = some (B 236 i.toNatClampNeg) := aR (a := 19) rfl h
theorem sM_locals (h : jm_in i 160 = true) : jm_as (hp V A w B) 236 0 i x = some (hp V A w (va_up B 236 (upd (B 236) i.toNatClampNeg x))) := sR (a := 19) rfl h
theorem gM_localRows : jm_gf (hp V A w B) 217 9 29 = some (.inr (.inl (some 237))) := gR_r (a := 0) rfl rfl
theorem aM_localRows (h : jm_in i 160 = true) : jm_al (hp V A w B) 237 0 i = some (B 237 i.toNatClampNeg) := aR (a := 20) rfl h
theorem sM_localRows (h : jm_in i 160 = true) : jm_as (hp V A w B) 237 0 i x = some (hp V A w (va_up B 237 (upd (B 237) i.toNatClampNeg x))) := sR (a := 20) rfl h
theorem gM_rows : jm_gf (hp V A w B) 217 9 30 = some (.inl (w 30)) := gR_i (a := 0) rfl rfl
theorem pM_rows : jm_pf (hp V A w B) 217 9 30 0 (.inl x) = some (hp V A (upd w 30 x) B) := pR rfl rfl rfl
theorem gM_used : jm_gf (hp V A w B) 217 9 31 = some (.inl (w 31)) := gR_i (a := 0) rfl rfl
theorem pM_used : jm_pf (hp V A w B) 217 9 31 0 (.inl x) = some (hp V A (upd w 31 x) B) := pR rfl rfl rfl
theorem gM_starts : jm_gf (hp V A w B) 217 9 32 = some (.inr (.inl (some 238))) := gR_r (a := 0) rfl rfl
theorem aM_starts (h : jm_in i 501 = true) : jm_al (hp V A w B) 238 0 i = some (B 238 i.toNatClampNeg) := aR (a := 21) rfl h
theorem sM_starts (h : jm_in i 501 = true) : jm_as (hp V A w B) 238 0 i x = some (hp V A w (va_up B 238 (upd (B 238) i.toNatClampNeg x))) := sR (a := 21) rfl h
theorem gM_lengths : jm_gf (hp V A w B) 217 9 33 = some (.inr (.inl (some 239))) := gR_r (a := 0) rfl rfl
theorem aM_lengths (h : jm_in i 501 = true) : jm_al (hp V A w B) 239 0 i = some (B 239 i.toNatClampNeg) := aR (a := 22) rfl h
theorem sM_lengths (h : jm_in i 501 = true) : jm_as (hp V A w B) 239 0 i x = some (hp V A w (va_up B 239 (upd (B 239) i.toNatClampNeg x))) := sR (a := 22) rfl h
theorem gM_cells : jm_gf (hp V A w B) 217 9 34 = some (.inr (.inl (some 240))) := gR_r (a := 0) rfl rfl
theorem aM_cells (h : jm_in i 1024 = true) : jm_al (hp V A w B) 240 0 i = some (B 240 i.toNatClampNeg) := aR (a := 23) rfl h
theorem sM_cells (h : jm_in i 1024 = true) : jm_as (hp V A w B) 240 0 i x = some (hp V A w (va_up B 240 (upd (B 240) i.toNatClampNeg x))) := sR (a := 23) rfl h
theorem gM_calls : jm_gf (hp V A w B) 217 9 35 = some (.inr (.inl (some 241))) := gR_r (a := 0) rfl rfl
theorem aM_calls (h : jm_in i 320 = true) : jm_al (hp V A w B) 241 0 i = some (B 241 i.toNatClampNeg) := aR (a := 24) rfl h
theorem sM_calls (h : jm_in i 320 = true) : jm_as (hp V A w B) 241 0 i x = some (hp V A w (va_up B 241 (upd (B 241) i.toNatClampNeg x))) := sR (a := 24) rfl h
end MR
