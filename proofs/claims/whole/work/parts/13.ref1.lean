/-! THE REFERENCE'S METHODS, as equations -/
theorem jm_in_nI {j n : Nat} (h : j < n) (hn : n < 2147483648) : jm_in (nI j) n = true := decide_eq_true (nI_in h hn)
/-! numbers beside small constants -/
theorem nI_sub1 {n : Nat} (h : 0 < n) : nI n - 1 = nI (n - 1) := by
  obtain ⟨m, rfl⟩ : ∃ m, n = m + 1 := ⟨n - 1, by omega⟩
  rw [nI_pred, Nat.add_sub_cancel]
theorem ny_l0 {n : Nat} (h : n < 2 ^ 31) : (nI n < 0) = (n < 0) := propext (nI_ltI h (by decide))
theorem ny_g0 {n : Nat} (h : n < 2 ^ 31) : (0 < nI n) = (0 < n) := propext (nI_ltI (a := 0) (by decide) h)
theorem ny_L0 {n : Nat} (h : n < 2 ^ 31) : (nI n ≤ 0) = (n ≤ 0) := propext (nI_leI h (by decide))
theorem ny_G0 {n : Nat} (h : n < 2 ^ 31) : (0 ≤ nI n) = (0 ≤ n) := propext (nI_leI (a := 0) (by decide) h)
theorem ny_e0 {n : Nat} (h : n < 2 ^ 31) : (nI n = 0) = (n = 0) := propext (nI_eq h (by decide))
theorem ny_f0 {n : Nat} (h : n < 2 ^ 31) : (0 = nI n) = (0 = n) := propext (nI_eq (a := 0) (by decide) h)
theorem ny_l1 {n : Nat} (h : n < 2 ^ 31) : (nI n < 1) = (n < 1) := propext (nI_ltI h (by decide))
theorem ny_g1 {n : Nat} (h : n < 2 ^ 31) : (1 < nI n) = (1 < n) := propext (nI_ltI (a := 1) (by decide) h)
theorem ny_L1 {n : Nat} (h : n < 2 ^ 31) : (nI n ≤ 1) = (n ≤ 1) := propext (nI_leI h (by decide))
theorem ny_G1 {n : Nat} (h : n < 2 ^ 31) : (1 ≤ nI n) = (1 ≤ n) := propext (nI_leI (a := 1) (by decide) h)
theorem ny_e1 {n : Nat} (h : n < 2 ^ 31) : (nI n = 1) = (n = 1) := propext (nI_eq h (by decide))
theorem ny_f1 {n : Nat} (h : n < 2 ^ 31) : (1 = nI n) = (1 = n) := propext (nI_eq (a := 1) (by decide) h)
theorem ny_a1 (n : Nat) : nI n + 1 = nI (n + 1) := nI_add n 1
theorem ny_l2 {n : Nat} (h : n < 2 ^ 31) : (nI n < 2) = (n < 2) := propext (nI_ltI h (by decide))
theorem ny_g2 {n : Nat} (h : n < 2 ^ 31) : (2 < nI n) = (2 < n) := propext (nI_ltI (a := 2) (by decide) h)
theorem ny_L2 {n : Nat} (h : n < 2 ^ 31) : (nI n ≤ 2) = (n ≤ 2) := propext (nI_leI h (by decide))
theorem ny_G2 {n : Nat} (h : n < 2 ^ 31) : (2 ≤ nI n) = (2 ≤ n) := propext (nI_leI (a := 2) (by decide) h)
theorem ny_e2 {n : Nat} (h : n < 2 ^ 31) : (nI n = 2) = (n = 2) := propext (nI_eq h (by decide))
theorem ny_f2 {n : Nat} (h : n < 2 ^ 31) : (2 = nI n) = (2 = n) := propext (nI_eq (a := 2) (by decide) h)
theorem ny_m2 (n : Nat) : (2 : Int32) * nI n = nI (2 * n) := pk_mul 2 n
theorem ny_a2 (n : Nat) : nI n + 2 = nI (n + 2) := nI_add n 2
theorem ny_s2 {n : Nat} (h : 2 ≤ n) : nI n - 2 = nI (n - 2) := pk_sub h
theorem ny_l3 {n : Nat} (h : n < 2 ^ 31) : (nI n < 3) = (n < 3) := propext (nI_ltI h (by decide))
theorem ny_g3 {n : Nat} (h : n < 2 ^ 31) : (3 < nI n) = (3 < n) := propext (nI_ltI (a := 3) (by decide) h)
theorem ny_L3 {n : Nat} (h : n < 2 ^ 31) : (nI n ≤ 3) = (n ≤ 3) := propext (nI_leI h (by decide))
theorem ny_G3 {n : Nat} (h : n < 2 ^ 31) : (3 ≤ nI n) = (3 ≤ n) := propext (nI_leI (a := 3) (by decide) h)
theorem ny_e3 {n : Nat} (h : n < 2 ^ 31) : (nI n = 3) = (n = 3) := propext (nI_eq h (by decide))
theorem ny_f3 {n : Nat} (h : n < 2 ^ 31) : (3 = nI n) = (3 = n) := propext (nI_eq (a := 3) (by decide) h)
theorem ny_m3 (n : Nat) : (3 : Int32) * nI n = nI (3 * n) := pk_mul 3 n
theorem ny_a3 (n : Nat) : nI n + 3 = nI (n + 3) := nI_add n 3
theorem ny_s3 {n : Nat} (h : 3 ≤ n) : nI n - 3 = nI (n - 3) := pk_sub h
theorem ny_l4 {n : Nat} (h : n < 2 ^ 31) : (nI n < 4) = (n < 4) := propext (nI_ltI h (by decide))
theorem ny_g4 {n : Nat} (h : n < 2 ^ 31) : (4 < nI n) = (4 < n) := propext (nI_ltI (a := 4) (by decide) h)
theorem ny_L4 {n : Nat} (h : n < 2 ^ 31) : (nI n ≤ 4) = (n ≤ 4) := propext (nI_leI h (by decide))
theorem ny_G4 {n : Nat} (h : n < 2 ^ 31) : (4 ≤ nI n) = (4 ≤ n) := propext (nI_leI (a := 4) (by decide) h)
theorem ny_e4 {n : Nat} (h : n < 2 ^ 31) : (nI n = 4) = (n = 4) := propext (nI_eq h (by decide))
theorem ny_f4 {n : Nat} (h : n < 2 ^ 31) : (4 = nI n) = (4 = n) := propext (nI_eq (a := 4) (by decide) h)
theorem ny_m4 (n : Nat) : (4 : Int32) * nI n = nI (4 * n) := pk_mul 4 n
theorem ny_a4 (n : Nat) : nI n + 4 = nI (n + 4) := nI_add n 4
theorem ny_s4 {n : Nat} (h : 4 ≤ n) : nI n - 4 = nI (n - 4) := pk_sub h
theorem ny_l5 {n : Nat} (h : n < 2 ^ 31) : (nI n < 5) = (n < 5) := propext (nI_ltI h (by decide))
theorem ny_g5 {n : Nat} (h : n < 2 ^ 31) : (5 < nI n) = (5 < n) := propext (nI_ltI (a := 5) (by decide) h)
theorem ny_L5 {n : Nat} (h : n < 2 ^ 31) : (nI n ≤ 5) = (n ≤ 5) := propext (nI_leI h (by decide))
theorem ny_G5 {n : Nat} (h : n < 2 ^ 31) : (5 ≤ nI n) = (5 ≤ n) := propext (nI_leI (a := 5) (by decide) h)
theorem ny_e5 {n : Nat} (h : n < 2 ^ 31) : (nI n = 5) = (n = 5) := propext (nI_eq h (by decide))
theorem ny_f5 {n : Nat} (h : n < 2 ^ 31) : (5 = nI n) = (5 = n) := propext (nI_eq (a := 5) (by decide) h)
theorem ny_m5 (n : Nat) : (5 : Int32) * nI n = nI (5 * n) := pk_mul 5 n
theorem ny_a5 (n : Nat) : nI n + 5 = nI (n + 5) := nI_add n 5
theorem ny_s5 {n : Nat} (h : 5 ≤ n) : nI n - 5 = nI (n - 5) := pk_sub h
theorem ny_l8 {n : Nat} (h : n < 2 ^ 31) : (nI n < 8) = (n < 8) := propext (nI_ltI h (by decide))
theorem ny_g8 {n : Nat} (h : n < 2 ^ 31) : (8 < nI n) = (8 < n) := propext (nI_ltI (a := 8) (by decide) h)
theorem ny_L8 {n : Nat} (h : n < 2 ^ 31) : (nI n ≤ 8) = (n ≤ 8) := propext (nI_leI h (by decide))
theorem ny_G8 {n : Nat} (h : n < 2 ^ 31) : (8 ≤ nI n) = (8 ≤ n) := propext (nI_leI (a := 8) (by decide) h)
theorem ny_e8 {n : Nat} (h : n < 2 ^ 31) : (nI n = 8) = (n = 8) := propext (nI_eq h (by decide))
theorem ny_f8 {n : Nat} (h : n < 2 ^ 31) : (8 = nI n) = (8 = n) := propext (nI_eq (a := 8) (by decide) h)
theorem ny_m8 (n : Nat) : (8 : Int32) * nI n = nI (8 * n) := pk_mul 8 n
theorem ny_a8 (n : Nat) : nI n + 8 = nI (n + 8) := nI_add n 8
theorem ny_s8 {n : Nat} (h : 8 ≤ n) : nI n - 8 = nI (n - 8) := pk_sub h
theorem ny_l16 {n : Nat} (h : n < 2 ^ 31) : (nI n < 16) = (n < 16) := propext (nI_ltI h (by decide))
theorem ny_g16 {n : Nat} (h : n < 2 ^ 31) : (16 < nI n) = (16 < n) := propext (nI_ltI (a := 16) (by decide) h)
theorem ny_L16 {n : Nat} (h : n < 2 ^ 31) : (nI n ≤ 16) = (n ≤ 16) := propext (nI_leI h (by decide))
theorem ny_G16 {n : Nat} (h : n < 2 ^ 31) : (16 ≤ nI n) = (16 ≤ n) := propext (nI_leI (a := 16) (by decide) h)
theorem ny_e16 {n : Nat} (h : n < 2 ^ 31) : (nI n = 16) = (n = 16) := propext (nI_eq h (by decide))
theorem ny_f16 {n : Nat} (h : n < 2 ^ 31) : (16 = nI n) = (16 = n) := propext (nI_eq (a := 16) (by decide) h)
theorem ny_m16 (n : Nat) : (16 : Int32) * nI n = nI (16 * n) := pk_mul 16 n
theorem ny_a16 (n : Nat) : nI n + 16 = nI (n + 16) := nI_add n 16
theorem ny_s16 {n : Nat} (h : 16 ≤ n) : nI n - 16 = nI (n - 16) := pk_sub h
theorem ny_l20 {n : Nat} (h : n < 2 ^ 31) : (nI n < 20) = (n < 20) := propext (nI_ltI h (by decide))
theorem ny_g20 {n : Nat} (h : n < 2 ^ 31) : (20 < nI n) = (20 < n) := propext (nI_ltI (a := 20) (by decide) h)
theorem ny_L20 {n : Nat} (h : n < 2 ^ 31) : (nI n ≤ 20) = (n ≤ 20) := propext (nI_leI h (by decide))
theorem ny_G20 {n : Nat} (h : n < 2 ^ 31) : (20 ≤ nI n) = (20 ≤ n) := propext (nI_leI (a := 20) (by decide) h)
theorem ny_e20 {n : Nat} (h : n < 2 ^ 31) : (nI n = 20) = (n = 20) := propext (nI_eq h (by decide))
theorem ny_f20 {n : Nat} (h : n < 2 ^ 31) : (20 = nI n) = (20 = n) := propext (nI_eq (a := 20) (by decide) h)
theorem ny_m20 (n : Nat) : (20 : Int32) * nI n = nI (20 * n) := pk_mul 20 n
theorem ny_a20 (n : Nat) : nI n + 20 = nI (n + 20) := nI_add n 20
theorem ny_s20 {n : Nat} (h : 20 ≤ n) : nI n - 20 = nI (n - 20) := pk_sub h
theorem ny_l28 {n : Nat} (h : n < 2 ^ 31) : (nI n < 28) = (n < 28) := propext (nI_ltI h (by decide))
theorem ny_g28 {n : Nat} (h : n < 2 ^ 31) : (28 < nI n) = (28 < n) := propext (nI_ltI (a := 28) (by decide) h)
theorem ny_L28 {n : Nat} (h : n < 2 ^ 31) : (nI n ≤ 28) = (n ≤ 28) := propext (nI_leI h (by decide))
theorem ny_G28 {n : Nat} (h : n < 2 ^ 31) : (28 ≤ nI n) = (28 ≤ n) := propext (nI_leI (a := 28) (by decide) h)
theorem ny_e28 {n : Nat} (h : n < 2 ^ 31) : (nI n = 28) = (n = 28) := propext (nI_eq h (by decide))
theorem ny_f28 {n : Nat} (h : n < 2 ^ 31) : (28 = nI n) = (28 = n) := propext (nI_eq (a := 28) (by decide) h)
theorem ny_m28 (n : Nat) : (28 : Int32) * nI n = nI (28 * n) := pk_mul 28 n
theorem ny_a28 (n : Nat) : nI n + 28 = nI (n + 28) := nI_add n 28
theorem ny_s28 {n : Nat} (h : 28 ≤ n) : nI n - 28 = nI (n - 28) := pk_sub h
theorem ny_l63 {n : Nat} (h : n < 2 ^ 31) : (nI n < 63) = (n < 63) := propext (nI_ltI h (by decide))
theorem ny_g63 {n : Nat} (h : n < 2 ^ 31) : (63 < nI n) = (63 < n) := propext (nI_ltI (a := 63) (by decide) h)
theorem ny_L63 {n : Nat} (h : n < 2 ^ 31) : (nI n ≤ 63) = (n ≤ 63) := propext (nI_leI h (by decide))
theorem ny_G63 {n : Nat} (h : n < 2 ^ 31) : (63 ≤ nI n) = (63 ≤ n) := propext (nI_leI (a := 63) (by decide) h)
theorem ny_e63 {n : Nat} (h : n < 2 ^ 31) : (nI n = 63) = (n = 63) := propext (nI_eq h (by decide))
theorem ny_f63 {n : Nat} (h : n < 2 ^ 31) : (63 = nI n) = (63 = n) := propext (nI_eq (a := 63) (by decide) h)
theorem ny_m63 (n : Nat) : (63 : Int32) * nI n = nI (63 * n) := pk_mul 63 n
theorem ny_a63 (n : Nat) : nI n + 63 = nI (n + 63) := nI_add n 63
theorem ny_s63 {n : Nat} (h : 63 ≤ n) : nI n - 63 = nI (n - 63) := pk_sub h
theorem ny_l64 {n : Nat} (h : n < 2 ^ 31) : (nI n < 64) = (n < 64) := propext (nI_ltI h (by decide))
theorem ny_g64 {n : Nat} (h : n < 2 ^ 31) : (64 < nI n) = (64 < n) := propext (nI_ltI (a := 64) (by decide) h)
theorem ny_L64 {n : Nat} (h : n < 2 ^ 31) : (nI n ≤ 64) = (n ≤ 64) := propext (nI_leI h (by decide))
theorem ny_G64 {n : Nat} (h : n < 2 ^ 31) : (64 ≤ nI n) = (64 ≤ n) := propext (nI_leI (a := 64) (by decide) h)
theorem ny_e64 {n : Nat} (h : n < 2 ^ 31) : (nI n = 64) = (n = 64) := propext (nI_eq h (by decide))
theorem ny_f64 {n : Nat} (h : n < 2 ^ 31) : (64 = nI n) = (64 = n) := propext (nI_eq (a := 64) (by decide) h)
theorem ny_m64 (n : Nat) : (64 : Int32) * nI n = nI (64 * n) := pk_mul 64 n
theorem ny_a64 (n : Nat) : nI n + 64 = nI (n + 64) := nI_add n 64
theorem ny_s64 {n : Nat} (h : 64 ≤ n) : nI n - 64 = nI (n - 64) := pk_sub h
theorem ny_l100 {n : Nat} (h : n < 2 ^ 31) : (nI n < 100) = (n < 100) := propext (nI_ltI h (by decide))
theorem ny_g100 {n : Nat} (h : n < 2 ^ 31) : (100 < nI n) = (100 < n) := propext (nI_ltI (a := 100) (by decide) h)
theorem ny_L100 {n : Nat} (h : n < 2 ^ 31) : (nI n ≤ 100) = (n ≤ 100) := propext (nI_leI h (by decide))
theorem ny_G100 {n : Nat} (h : n < 2 ^ 31) : (100 ≤ nI n) = (100 ≤ n) := propext (nI_leI (a := 100) (by decide) h)
theorem ny_e100 {n : Nat} (h : n < 2 ^ 31) : (nI n = 100) = (n = 100) := propext (nI_eq h (by decide))
theorem ny_f100 {n : Nat} (h : n < 2 ^ 31) : (100 = nI n) = (100 = n) := propext (nI_eq (a := 100) (by decide) h)
theorem ny_m100 (n : Nat) : (100 : Int32) * nI n = nI (100 * n) := pk_mul 100 n
theorem ny_a100 (n : Nat) : nI n + 100 = nI (n + 100) := nI_add n 100
theorem ny_s100 {n : Nat} (h : 100 ≤ n) : nI n - 100 = nI (n - 100) := pk_sub h
theorem ny_l500 {n : Nat} (h : n < 2 ^ 31) : (nI n < 500) = (n < 500) := propext (nI_ltI h (by decide))
theorem ny_g500 {n : Nat} (h : n < 2 ^ 31) : (500 < nI n) = (500 < n) := propext (nI_ltI (a := 500) (by decide) h)
theorem ny_L500 {n : Nat} (h : n < 2 ^ 31) : (nI n ≤ 500) = (n ≤ 500) := propext (nI_leI h (by decide))
theorem ny_G500 {n : Nat} (h : n < 2 ^ 31) : (500 ≤ nI n) = (500 ≤ n) := propext (nI_leI (a := 500) (by decide) h)
theorem ny_e500 {n : Nat} (h : n < 2 ^ 31) : (nI n = 500) = (n = 500) := propext (nI_eq h (by decide))
theorem ny_f500 {n : Nat} (h : n < 2 ^ 31) : (500 = nI n) = (500 = n) := propext (nI_eq (a := 500) (by decide) h)
theorem ny_m500 (n : Nat) : (500 : Int32) * nI n = nI (500 * n) := pk_mul 500 n
theorem ny_a500 (n : Nat) : nI n + 500 = nI (n + 500) := nI_add n 500
theorem ny_s500 {n : Nat} (h : 500 ≤ n) : nI n - 500 = nI (n - 500) := pk_sub h
theorem ny_l1024 {n : Nat} (h : n < 2 ^ 31) : (nI n < 1024) = (n < 1024) := propext (nI_ltI h (by decide))
theorem ny_g1024 {n : Nat} (h : n < 2 ^ 31) : (1024 < nI n) = (1024 < n) := propext (nI_ltI (a := 1024) (by decide) h)
theorem ny_L1024 {n : Nat} (h : n < 2 ^ 31) : (nI n ≤ 1024) = (n ≤ 1024) := propext (nI_leI h (by decide))
theorem ny_G1024 {n : Nat} (h : n < 2 ^ 31) : (1024 ≤ nI n) = (1024 ≤ n) := propext (nI_leI (a := 1024) (by decide) h)
theorem ny_e1024 {n : Nat} (h : n < 2 ^ 31) : (nI n = 1024) = (n = 1024) := propext (nI_eq h (by decide))
theorem ny_f1024 {n : Nat} (h : n < 2 ^ 31) : (1024 = nI n) = (1024 = n) := propext (nI_eq (a := 1024) (by decide) h)
theorem ny_m1024 (n : Nat) : (1024 : Int32) * nI n = nI (1024 * n) := pk_mul 1024 n
theorem ny_a1024 (n : Nat) : nI n + 1024 = nI (n + 1024) := nI_add n 1024
theorem ny_s1024 {n : Nat} (h : 1024 ≤ n) : nI n - 1024 = nI (n - 1024) := pk_sub h
theorem ny_l5000 {n : Nat} (h : n < 2 ^ 31) : (nI n < 5000) = (n < 5000) := propext (nI_ltI h (by decide))
theorem ny_g5000 {n : Nat} (h : n < 2 ^ 31) : (5000 < nI n) = (5000 < n) := propext (nI_ltI (a := 5000) (by decide) h)
theorem ny_L5000 {n : Nat} (h : n < 2 ^ 31) : (nI n ≤ 5000) = (n ≤ 5000) := propext (nI_leI h (by decide))
theorem ny_G5000 {n : Nat} (h : n < 2 ^ 31) : (5000 ≤ nI n) = (5000 ≤ n) := propext (nI_leI (a := 5000) (by decide) h)
theorem ny_e5000 {n : Nat} (h : n < 2 ^ 31) : (nI n = 5000) = (n = 5000) := propext (nI_eq h (by decide))
theorem ny_f5000 {n : Nat} (h : n < 2 ^ 31) : (5000 = nI n) = (5000 = n) := propext (nI_eq (a := 5000) (by decide) h)
theorem ny_m5000 (n : Nat) : (5000 : Int32) * nI n = nI (5000 * n) := pk_mul 5000 n
theorem ny_a5000 (n : Nat) : nI n + 5000 = nI (n + 5000) := nI_add n 5000
theorem ny_s5000 {n : Nat} (h : 5000 ≤ n) : nI n - 5000 = nI (n - 5000) := pk_sub h
theorem ny_s0 (n : Nat) : nI n - 0 = nI n := by rw [show (0 : Int32) = nI 0 from rfl, pk_sub (Nat.zero_le n), Nat.sub_zero]
theorem ny_a0 (n : Nat) : nI n + 0 = nI n := nI_add n 0
theorem ny_lt {a b : Nat} (ha : a < 2 ^ 31) (hb : b < 2 ^ 31) : (nI a < nI b) = (a < b) := propext (nI_ltI ha hb)
theorem ny_le {a b : Nat} (ha : a < 2 ^ 31) (hb : b < 2 ^ 31) : (nI a ≤ nI b) = (a ≤ b) := propext (nI_leI ha hb)
theorem ny_eq {a b : Nat} (ha : a < 2 ^ 31) (hb : b < 2 ^ 31) : (nI a = nI b) = (a = b) := propext (nI_eq ha hb)
/-! conditions that the discharger decides -/
theorem nt_le {a b : Nat} (h : a ≤ b) : (a ≤ b) = True := eq_true h
theorem nf_le {a b : Nat} (h : ¬ a ≤ b) : (a ≤ b) = False := eq_false h
theorem nt_lt {a b : Nat} (h : a < b) : (a < b) = True := eq_true h
theorem nf_lt {a b : Nat} (h : ¬ a < b) : (a < b) = False := eq_false h
theorem nt_eq {a b : Nat} (h : a = b) : (a = b) = True := eq_true h
theorem nf_eq {a b : Nat} (h : ¬ a = b) : (a = b) = False := eq_false h
theorem it_eq {a b : Int32} (h : a = b) : (a = b) = True := eq_true h
theorem if_eq {a b : Int32} (h : ¬ a = b) : (a = b) = False := eq_false h
section M1
variable {X : jm_X} {V A : Nat → Nat → Int32} {w : Nat → Int32} {B : Nat → Nat → Int32} {z d h : Nat} {v row x : Int32}
theorem m_push (hD : w 22 = nI (d + 1)) (hd : d < 20) (hh : B 233 d = nI h) (h16 : h < 16) : je X 34 0 [some (.inr (.inl (some 217))), some (.inl v), some (.inl row), none] [] (hp V A w B, z) = some (none, (hp V A w (va_up (va_up (va_up B 234 (upd (B 234) (16 * d + h) v)) 235 (upd (B 235) (16 * d + h) row)) 233 (upd (B 233) d (nI (h + 1)))), z)) := by
  simp (disch := first | decide | omega | (refine jm_in_nI ?_ ?_ <;> omega) | assumption | exact cM | (simp; done) | fail) only [r_M_push_0, r_M_push_1, r_M_push_4, r_M_push_5, r_M_push_6, r_M_push_7, r_M_push_8, r_M_push_11, r_M_push_13, r_M_push_14, r_M_push_15, r_M_push_16, r_M_push_19, r_M_push_20, r_M_push_21, r_M_push_22, r_M_push_23, r_M_push_24, r_M_push_25, r_M_push_28, r_M_push_30, r_M_push_31, r_M_push_32, r_M_push_33, r_M_push_36, r_M_push_37, r_M_push_38, r_M_push_39, r_M_push_40, r_M_push_41, r_M_push_42, r_M_push_45, r_M_push_46, r_M_push_47, r_M_push_48, r_M_push_49, r_M_push_50, r_M_push_51, gM_thrown, gM_functions, gM_params, gM_localMany, gM_results, gM_sizes, gM_ops, gM_numbers, gM_handlers, gM_froms, gM_tos, gM_targets, gM_anyCode, gM_codes, gM_answers, gM_answerMany, gM_isRun, gM_ended, gM_value, gM_steps, gM_outside, gM_most, gM_deep, gM_who, gM_place, gM_height, gM_stack, gM_stackRows, gM_locals, gM_localRows, gM_rows, gM_used, gM_starts, gM_lengths, gM_cells, gM_calls, cM, pM_thrown, pM_functions, pM_answerMany, pM_isRun, pM_ended, pM_value, pM_steps, pM_outside, pM_most, pM_deep, pM_rows, pM_used, aM_params, sM_params, aM_localMany, sM_localMany, aM_results, sM_results, aM_sizes, sM_sizes, aM_ops, sM_ops, aM_numbers, sM_numbers, aM_handlers, sM_handlers, aM_froms, sM_froms, aM_tos, sM_tos, aM_targets, sM_targets, aM_anyCode, sM_anyCode, aM_codes, sM_codes, aM_answers, sM_answers, aM_who, sM_who, aM_place, sM_place, aM_height, sM_height, aM_stack, sM_stack, aM_stackRows, sM_stackRows, aM_locals, sM_locals, aM_localRows, sM_localRows, aM_starts, sM_starts, aM_lengths, sM_lengths, aM_cells, sM_cells, aM_calls, sM_calls, je_v1, je_i1, je_r1, je_h1, je_c0, je_c1, va_up_self, jx_une, pk_us, pk_un, nI_clamp, nI_pred, nI_1, nt_le, nf_le, nt_lt, nf_lt, nt_eq, nf_eq, it_eq, if_eq, if_true, if_false, Int32.reduceAdd, Int32.reduceSub, Int32.reduceMul, Int32.reduceLT, Int32.reduceLE, Int32.reduceToNatClampNeg, Nat.reduceAdd, Nat.reduceMul, Nat.reduceSub, Nat.reduceEqDiff, Nat.reduceLeDiff, reduceIte, reduceCtorEq, hD, hh, ny_l0, ny_g0, ny_L0, ny_G0, ny_e0, ny_f0, ny_l1, ny_g1, ny_L1, ny_G1, ny_e1, ny_f1, ny_a1, ny_l2, ny_g2, ny_L2, ny_G2, ny_e2, ny_f2, ny_m2, ny_a2, ny_s2, ny_l3, ny_g3, ny_L3, ny_G3, ny_e3, ny_f3, ny_m3, ny_a3, ny_s3, ny_l4, ny_g4, ny_L4, ny_G4, ny_e4, ny_f4, ny_m4, ny_a4, ny_s4, ny_l5, ny_g5, ny_L5, ny_G5, ny_e5, ny_f5, ny_m5, ny_a5, ny_s5, ny_l8, ny_g8, ny_L8, ny_G8, ny_e8, ny_f8, ny_m8, ny_a8, ny_s8, ny_l16, ny_g16, ny_L16, ny_G16, ny_e16, ny_f16, ny_m16, ny_a16, ny_s16, ny_l20, ny_g20, ny_L20, ny_G20, ny_e20, ny_f20, ny_m20, ny_a20, ny_s20, ny_l28, ny_g28, ny_L28, ny_G28, ny_e28, ny_f28, ny_m28, ny_a28, ny_s28, ny_l63, ny_g63, ny_L63, ny_G63, ny_e63, ny_f63, ny_m63, ny_a63, ny_s63, ny_l64, ny_g64, ny_L64, ny_G64, ny_e64, ny_f64, ny_m64, ny_a64, ny_s64, ny_l100, ny_g100, ny_L100, ny_G100, ny_e100, ny_f100, ny_m100, ny_a100, ny_s100, ny_l500, ny_g500, ny_L500, ny_G500, ny_e500, ny_f500, ny_m500, ny_a500, ny_s500, ny_l1024, ny_g1024, ny_L1024, ny_G1024, ny_e1024, ny_f1024, ny_m1024, ny_a1024, ny_s1024, ny_l5000, ny_g5000, ny_L5000, ny_G5000, ny_e5000, ny_f5000, ny_m5000, ny_a5000, ny_s5000, ny_s0, ny_a0, ny_lt, ny_le, ny_eq, nI_sub1, nI_add, pk_sub, pk_mul, Nat.add_sub_cancel]
end M1
