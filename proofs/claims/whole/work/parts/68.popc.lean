/-! Long.bitCount counts the bits. -/
theorem land256 (q r c d : Nat) (hr : r < 256) (hd : d < 256) : (256 * q + r) &&& (256 * c + d) = 256 * (q &&& c) + (r &&& d) := by
  have a : ((256 * q + r) &&& (256 * c + d)) / 2 ^ 8 = (256 * q + r) / 2 ^ 8 &&& (256 * c + d) / 2 ^ 8 := Nat.and_div_two_pow
  have b : ((256 * q + r) &&& (256 * c + d)) % 2 ^ 8 = ((256 * q + r) % 2 ^ 8) &&& ((256 * c + d) % 2 ^ 8) := Nat.and_mod_two_pow
  have e1 : (256 * q + r) / 2 ^ 8 = q := by omega
  have e2 : (256 * c + d) / 2 ^ 8 = c := by omega
  have e3 : (256 * q + r) % 2 ^ 8 = r := by omega
  have e4 : (256 * c + d) % 2 ^ 8 = d := by omega
  rw [e1, e2] at a
  rw [e3, e4] at b
  omega
def rpb (x : Nat) : Nat → Nat
  | 0 => 0
  | n + 1 => 256 * rpb x n + x
def pcA (n k : Nat) : Nat := n - ((n / 2) &&& rpb 85 k)
def pcB (x k : Nat) : Nat := (x &&& rpb 51 k) + ((x / 4) &&& rpb 51 k)
def pcC (y k : Nat) : Nat := (y + y / 16) &&& rpb 15 k
def pc1 (r : Nat) : Nat := pcC (pcB (pcA r 1) 1) 1
theorem pc_d1 : ∀ r, r < 256 → pcA r 1 < 256 := by decide +kernel
theorem pc_d2 : ∀ r, r < 256 → pcB r 1 < 256 := by decide +kernel
theorem pc_d3 : ∀ r, r < 256 → pcB (pcA r 1) 1 % 16 ≤ 4 ∧ pcB (pcA r 1) 1 ≤ 68 := by decide +kernel
theorem pc_d4 : ∀ r, r < 256 → pc1 r = r % 2 + r / 2 % 2 + r / 4 % 2 + r / 8 % 2 + r / 16 % 2 + r / 32 % 2 + r / 64 % 2 + r / 128 % 2 := by decide +kernel
theorem pc_d5 : ∀ s, s < 128 → (128 + s) &&& 85 = s &&& 85 := by decide +kernel
theorem pc_d6 : ∀ e, e < 4 → ∀ s, s < 64 → (64 * e + s) &&& 51 = s &&& 51 := by decide +kernel
theorem pc_d7 : ∀ s, s &&& 15 = s % 16 := fun s => Nat.and_two_pow_sub_one_eq_mod s 4
theorem pcA_s (q r k : Nat) (hr : r < 256) : pcA (256 * q + r) (k + 1) = 256 * pcA q k + pcA r 1 := by
  unfold pcA
  have h2 : (256 * q + r) / 2 = 256 * (q / 2) + (128 * (q % 2) + r / 2) := by omega
  have h3 : (128 * (q % 2) + r / 2) &&& 85 = (r / 2) &&& 85 := by
    rcases (show q % 2 = 0 ∨ q % 2 = 1 by omega) with z | z
    · rw [z, Nat.mul_zero, Nat.zero_add]
    · rw [z, Nat.mul_one]
      exact pc_d5 _ (by omega)
  have h4 : rpb 85 (k + 1) = 256 * rpb 85 k + 85 := rfl
  have h5 : rpb 85 1 = 85 := rfl
  rw [h2, h4, land256 _ _ _ _ (by omega) (by decide), h3, h5]
  have l1 : (q / 2 &&& rpb 85 k) ≤ q / 2 := Nat.and_le_left
  have l2 : (r / 2 &&& 85) ≤ r / 2 := Nat.and_le_left
  omega
theorem pcB_s (q r k : Nat) (hr : r < 256) : pcB (256 * q + r) (k + 1) = 256 * pcB q k + pcB r 1 := by
  unfold pcB
  have h2 : (256 * q + r) / 4 = 256 * (q / 4) + (64 * (q % 4) + r / 4) := by omega
  have h3 : (64 * (q % 4) + r / 4) &&& 51 = (r / 4) &&& 51 := pc_d6 _ (by omega) _ (by omega)
  have h4 : rpb 51 (k + 1) = 256 * rpb 51 k + 51 := rfl
  have h5 : rpb 51 1 = 51 := rfl
  rw [h2, h4, land256 q r _ _ hr (by decide), land256 (q / 4) _ _ _ (by omega) (by decide), h3, h5]
  omega
theorem pc_nib (n k : Nat) : pcB (pcA n k) k % 16 ≤ 4 := by
  cases k with
  | zero =>
    simp [pcB, rpb]
  | succ k =>
    have e : n = 256 * (n / 256) + n % 256 := by omega
    have h := pc_d3 (n % 256) (by omega)
    rw [e, pcA_s _ _ _ (by omega), pcB_s _ _ _ (pc_d1 _ (by omega))]
    omega
def pcT (n k : Nat) : Nat := pcC (pcB (pcA n k) k) k
theorem pcT_s (q r k : Nat) (hr : r < 256) : pcT (256 * q + r) (k + 1) = 256 * pcT q k + pc1 r := by
  unfold pcT pc1
  rw [pcA_s _ _ _ hr, pcB_s _ _ _ (pc_d1 r hr)]
  have n1 := pc_nib q k
  have n2 := pc_d3 r hr
  generalize pcB (pcA q k) k = y at n1 ⊢
  generalize pcB (pcA r 1) 1 = z at n2 ⊢
  unfold pcC
  have h2 : 256 * y + z + (256 * y + z) / 16 = 256 * (y + y / 16) + (z + z / 16 + 16 * (y % 16)) := by omega
  have h4 : rpb 15 (k + 1) = 256 * rpb 15 k + 15 := rfl
  have h5 : rpb 15 1 = 15 := rfl
  rw [h2, h4, land256 _ _ _ _ (by omega) (by decide), h5, pc_d7, pc_d7]
  omega
def pby (n j : Nat) : Nat := n / 256 ^ j % 256
theorem pcT8 (n : Nat) (hn : n < 2 ^ 64) : pcT n 8 = pc1 (pby n 0) + 256 * pc1 (pby n 1) + 65536 * pc1 (pby n 2) + 16777216 * pc1 (pby n 3) + 4294967296 * pc1 (pby n 4) + 1099511627776 * pc1 (pby n 5) + 281474976710656 * pc1 (pby n 6) + 72057594037927936 * pc1 (pby n 7) := by
  have lb : ∀ j, pby n j < 256 := fun j => Nat.mod_lt _ (by decide)
  have e : n = 256 * (256 * (256 * (256 * (256 * (256 * (256 * (256 * 0 + pby n 7) + pby n 6) + pby n 5) + pby n 4) + pby n 3) + pby n 2) + pby n 1) + pby n 0 := by
    unfold pby
    omega
  have e2 : pcT n 8 = pcT (256 * (256 * (256 * (256 * (256 * (256 * (256 * (256 * 0 + pby n 7) + pby n 6) + pby n 5) + pby n 4) + pby n 3) + pby n 2) + pby n 1) + pby n 0) 8 := congrArg (fun z => pcT z 8) e
  rw [e2, pcT_s _ _ _ (lb 0), pcT_s _ _ _ (lb 1), pcT_s _ _ _ (lb 2), pcT_s _ _ _ (lb 3), pcT_s _ _ _ (lb 4), pcT_s _ _ _ (lb 5), pcT_s _ _ _ (lb 6), pcT_s _ _ _ (lb 7)]
  have z0 : pcT 0 0 = 0 := by decide
  rw [z0]
  omega
def pcs (n : Nat) : Nat := pc1 (pby n 0) + pc1 (pby n 1) + pc1 (pby n 2) + pc1 (pby n 3) + pc1 (pby n 4) + pc1 (pby n 5) + pc1 (pby n 6) + pc1 (pby n 7)
theorem pc_le (n j : Nat) : pc1 (pby n j) ≤ 8 := by
  have h := pc_d4 (pby n j) (Nat.mod_lt _ (by decide))
  omega
theorem pc_end (p0 p1 p2 p3 p4 p5 p6 p7 T : Nat) (h0 : p0 ≤ 8) (h1 : p1 ≤ 8) (h2 : p2 ≤ 8) (h3 : p3 ≤ 8) (h4 : p4 ≤ 8) (h5 : p5 ≤ 8) (h6 : p6 ≤ 8) (h7 : p7 ≤ 8) (hT : T = p0 + 256 * p1 + 65536 * p2 + 16777216 * p3 + 4294967296 * p4 + 1099511627776 * p5 + 281474976710656 * p6 + 72057594037927936 * p7) : T < 2 ^ 60 ∧ (T + T / 256 + (T + T / 256) / 65536 + (T + T / 256 + (T + T / 256) / 65536) / 4294967296) % 128 = p0 + p1 + p2 + p3 + p4 + p5 + p6 + p7 := by
  constructor
  · omega
  · have a1 : T / 256 = (p1) + 256 * (p2) + 65536 * (p3) + 16777216 * (p4) + 4294967296 * (p5) + 1099511627776 * (p6) + 281474976710656 * (p7) := by omega
    obtain ⟨X, hX⟩ : ∃ X, X = T + T / 256 := ⟨_, rfl⟩
    rw [← hX]
    have c1 : X = (p0 + p1) + 256 * (p1 + p2) + 65536 * (p2 + p3) + 16777216 * (p3 + p4) + 4294967296 * (p4 + p5) + 1099511627776 * (p5 + p6) + 281474976710656 * (p6 + p7) + 72057594037927936 * (p7) := by omega
    clear hX a1 hT
    have a2 : X / 65536 = (p2 + p3) + 256 * (p3 + p4) + 65536 * (p4 + p5) + 16777216 * (p5 + p6) + 4294967296 * (p6 + p7) + 1099511627776 * (p7) := by omega
    obtain ⟨Y, hY⟩ : ∃ Y, Y = X + X / 65536 := ⟨_, rfl⟩
    rw [← hY]
    have c2 : Y = (p0 + p1 + p2 + p3) + 256 * (p1 + p2 + p3 + p4) + 65536 * (p2 + p3 + p4 + p5) + 16777216 * (p3 + p4 + p5 + p6) + 4294967296 * (p4 + p5 + p6 + p7) + 1099511627776 * (p5 + p6 + p7) + 281474976710656 * (p6 + p7) + 72057594037927936 * (p7) := by omega
    clear hY a2 c1
    have a3 : Y / 4294967296 = (p4 + p5 + p6 + p7) + 256 * (p5 + p6 + p7) + 65536 * (p6 + p7) + 16777216 * (p7) := by omega
    obtain ⟨Z, hZ⟩ : ∃ Z, Z = p1 + p2 + p3 + p4 + (p5 + p6 + p7) + 256 * (p2 + p3 + p4 + p5 + (p6 + p7)) + 65536 * (p3 + p4 + p5 + p6 + p7) + 16777216 * (p4 + p5 + p6 + p7) + 4294967296 * (p5 + p6 + p7) + 1099511627776 * (p6 + p7) + 281474976710656 * p7 := ⟨_, rfl⟩
    have c3 : Y + Y / 4294967296 = p0 + p1 + p2 + p3 + p4 + p5 + p6 + p7 + 256 * Z := by omega
    rw [c3]
    clear c2 a3 hZ c3
    omega
theorem lN_and {a b : Nat} : lN a &&& lN b = lN (a &&& b) := by
  refine hb_ext (fun i hi => ?_)
  rw [hb_and, hb_lN, hb_lN, hb_lN, Nat.testBit_and]
  cases decide (i < 64) <;> simp
theorem lNp_add (a b : Nat) : lN a + lN b = lN (a + b) := (Int64.ofNat_add a b).symm
theorem lNp_sub {a b : Nat} (h : b ≤ a) : lN a - lN b = lN (a - b) := by
  have e : lN a = lN (a - b) + lN b := by rw [lNp_add, Nat.sub_add_cancel h]
  rw [e, Int64.add_sub_cancel]
theorem nI_127 (n : Nat) : nI n &&& (127 : Int32) = nI (n % 128) := by
  apply Int32.toBitVec_inj.mp
  apply BitVec.eq_of_toNat_eq
  have hm : (127 : Int32).toBitVec.toNat = 2 ^ 7 - 1 := by decide
  have e1 : ∀ k, (nI k).toBitVec.toNat = k % 2 ^ 32 := fun k => by
    show (BitVec.ofNat 32 k).toNat = _
    rw [BitVec.toNat_ofNat]
  rw [Int32.toBitVec_and, BitVec.toNat_and, hm, e1, e1, Nat.and_two_pow_sub_one_eq_mod]
  omega
def xb (n i : Nat) : Nat := n / 2 ^ i % 2
theorem pc_byte (n j : Nat) : pc1 (pby n j) = xb n (8 * j) + xb n (8 * j + 1) + xb n (8 * j + 2) + xb n (8 * j + 3) + xb n (8 * j + 4) + xb n (8 * j + 5) + xb n (8 * j + 6) + xb n (8 * j + 7) := by
  rw [pc_d4 (pby n j) (Nat.mod_lt _ (by decide))]
  have e : ∀ k, n / 2 ^ (8 * j + k) = n / 256 ^ j / 2 ^ k := fun k => by
    rw [Nat.div_div_eq_div_mul, Nat.pow_add, Nat.pow_mul]
  have e0 := e 0
  have e1 := e 1
  have e2 := e 2
  have e3 := e 3
  have e4 := e 4
  have e5 := e 5
  have e6 := e 6
  have e7 := e 7
  unfold pby xb
  rw [Nat.add_zero] at e0
  rw [e0, e1, e2, e3, e4, e5, e6, e7]
  generalize n / 256 ^ j = q
  omega
def cx (n : Nat) : Nat → Nat
  | 0 => 0
  | k + 1 => cx n k + xb n (k + 1)
theorem hb_xb (n : Nat) : ∀ i, i < 64 → (if hb (lN n) i = true then 1 else 0) = xb n i := by
  intro i hi
  unfold xb
  rw [hb_lN, Nat.testBit_eq_decide_div_mod_eq, decide_eq_true hi, Bool.true_and]
  by_cases c : n / 2 ^ i % 2 = 1
  · rw [decide_eq_true c, if_pos rfl, c]
  · rw [decide_eq_false c, if_neg (by decide)]
    omega
theorem cnt_cx (n : Nat) : ∀ k, k < 64 → cnt (lN n) k = cx n k := by
  intro k
  induction k with
  | zero => intro _; rfl
  | succ k ih =>
    intro h
    show cnt (lN n) k + (if hb (lN n) (k + 1) = true then 1 else 0) = cx n k + xb n (k + 1)
    rw [ih (by omega), hb_xb n _ h]
theorem pcs_cnt (n : Nat) (ho : ∀ i, hb (lN n) i = true → 1 ≤ i ∧ i ≤ 40) : pcs n = cnt (lN n) 40 := by
  have hz : ∀ i, i < 64 → (i = 0 ∨ 40 < i) → xb n i = 0 := by
    intro i hi h
    rw [← hb_xb n i hi, if_neg (fun q => by have := ho i q; omega)]
  have hc : cx n 40 = 0 + xb n 1 + xb n 2 + xb n 3 + xb n 4 + xb n 5 + xb n 6 + xb n 7 + xb n 8 + xb n 9 + xb n 10 + xb n 11 + xb n 12 + xb n 13 + xb n 14 + xb n 15 + xb n 16 + xb n 17 + xb n 18 + xb n 19 + xb n 20 + xb n 21 + xb n 22 + xb n 23 + xb n 24 + xb n 25 + xb n 26 + xb n 27 + xb n 28 + xb n 29 + xb n 30 + xb n 31 + xb n 32 + xb n 33 + xb n 34 + xb n 35 + xb n 36 + xb n 37 + xb n 38 + xb n 39 + xb n 40 := rfl
  have b0 : pc1 (pby n 0) = xb n 0 + xb n 1 + xb n 2 + xb n 3 + xb n 4 + xb n 5 + xb n 6 + xb n 7 := pc_byte n 0
  have b1 : pc1 (pby n 1) = xb n 8 + xb n 9 + xb n 10 + xb n 11 + xb n 12 + xb n 13 + xb n 14 + xb n 15 := pc_byte n 1
  have b2 : pc1 (pby n 2) = xb n 16 + xb n 17 + xb n 18 + xb n 19 + xb n 20 + xb n 21 + xb n 22 + xb n 23 := pc_byte n 2
  have b3 : pc1 (pby n 3) = xb n 24 + xb n 25 + xb n 26 + xb n 27 + xb n 28 + xb n 29 + xb n 30 + xb n 31 := pc_byte n 3
  have b4 : pc1 (pby n 4) = xb n 32 + xb n 33 + xb n 34 + xb n 35 + xb n 36 + xb n 37 + xb n 38 + xb n 39 := pc_byte n 4
  have b5 : pc1 (pby n 5) = xb n 40 + xb n 41 + xb n 42 + xb n 43 + xb n 44 + xb n 45 + xb n 46 + xb n 47 := pc_byte n 5
  have b6 : pc1 (pby n 6) = xb n 48 + xb n 49 + xb n 50 + xb n 51 + xb n 52 + xb n 53 + xb n 54 + xb n 55 := pc_byte n 6
  have b7 : pc1 (pby n 7) = xb n 56 + xb n 57 + xb n 58 + xb n 59 + xb n 60 + xb n 61 + xb n 62 + xb n 63 := pc_byte n 7
  have z0 := hz 0 (by decide) (by decide)
  have z41 := hz 41 (by decide) (by decide)
  have z42 := hz 42 (by decide) (by decide)
  have z43 := hz 43 (by decide) (by decide)
  have z44 := hz 44 (by decide) (by decide)
  have z45 := hz 45 (by decide) (by decide)
  have z46 := hz 46 (by decide) (by decide)
  have z47 := hz 47 (by decide) (by decide)
  have z48 := hz 48 (by decide) (by decide)
  have z49 := hz 49 (by decide) (by decide)
  have z50 := hz 50 (by decide) (by decide)
  have z51 := hz 51 (by decide) (by decide)
  have z52 := hz 52 (by decide) (by decide)
  have z53 := hz 53 (by decide) (by decide)
  have z54 := hz 54 (by decide) (by decide)
  have z55 := hz 55 (by decide) (by decide)
  have z56 := hz 56 (by decide) (by decide)
  have z57 := hz 57 (by decide) (by decide)
  have z58 := hz 58 (by decide) (by decide)
  have z59 := hz 59 (by decide) (by decide)
  have z60 := hz 60 (by decide) (by decide)
  have z61 := hz 61 (by decide) (by decide)
  have z62 := hz 62 (by decide) (by decide)
  have z63 := hz 63 (by decide) (by decide)
  rw [cnt_cx n 40 (by decide), hc]
  unfold pcs
  omega
theorem bc_core (n : Nat) (hn : n < 2 ^ 64) (ho : ∀ i, hb (lN n) i = true → 1 ≤ i ∧ i ≤ 40) : ((Int64.toInt32 (((((((((lN n) - ((Int64.toUInt64 (lN n) >>> ((Int32.toInt64 (1 : Int32)).toUInt64 &&& Int64.toUInt64 63)).toInt64 &&& (6148914691236517205 : Int64))) &&& (3689348814741910323 : Int64)) + ((Int64.toUInt64 ((lN n) - ((Int64.toUInt64 (lN n) >>> ((Int32.toInt64 (1 : Int32)).toUInt64 &&& Int64.toUInt64 63)).toInt64 &&& (6148914691236517205 : Int64))) >>> ((Int32.toInt64 (2 : Int32)).toUInt64 &&& Int64.toUInt64 63)).toInt64 &&& (3689348814741910323 : Int64))) + (Int64.toUInt64 ((((lN n) - ((Int64.toUInt64 (lN n) >>> ((Int32.toInt64 (1 : Int32)).toUInt64 &&& Int64.toUInt64 63)).toInt64 &&& (6148914691236517205 : Int64))) &&& (3689348814741910323 : Int64)) + ((Int64.toUInt64 ((lN n) - ((Int64.toUInt64 (lN n) >>> ((Int32.toInt64 (1 : Int32)).toUInt64 &&& Int64.toUInt64 63)).toInt64 &&& (6148914691236517205 : Int64))) >>> ((Int32.toInt64 (2 : Int32)).toUInt64 &&& Int64.toUInt64 63)).toInt64 &&& (3689348814741910323 : Int64))) >>> ((Int32.toInt64 (4 : Int32)).toUInt64 &&& Int64.toUInt64 63)).toInt64) &&& (1085102592571150095 : Int64)) + (Int64.toUInt64 ((((((lN n) - ((Int64.toUInt64 (lN n) >>> ((Int32.toInt64 (1 : Int32)).toUInt64 &&& Int64.toUInt64 63)).toInt64 &&& (6148914691236517205 : Int64))) &&& (3689348814741910323 : Int64)) + ((Int64.toUInt64 ((lN n) - ((Int64.toUInt64 (lN n) >>> ((Int32.toInt64 (1 : Int32)).toUInt64 &&& Int64.toUInt64 63)).toInt64 &&& (6148914691236517205 : Int64))) >>> ((Int32.toInt64 (2 : Int32)).toUInt64 &&& Int64.toUInt64 63)).toInt64 &&& (3689348814741910323 : Int64))) + (Int64.toUInt64 ((((lN n) - ((Int64.toUInt64 (lN n) >>> ((Int32.toInt64 (1 : Int32)).toUInt64 &&& Int64.toUInt64 63)).toInt64 &&& (6148914691236517205 : Int64))) &&& (3689348814741910323 : Int64)) + ((Int64.toUInt64 ((lN n) - ((Int64.toUInt64 (lN n) >>> ((Int32.toInt64 (1 : Int32)).toUInt64 &&& Int64.toUInt64 63)).toInt64 &&& (6148914691236517205 : Int64))) >>> ((Int32.toInt64 (2 : Int32)).toUInt64 &&& Int64.toUInt64 63)).toInt64 &&& (3689348814741910323 : Int64))) >>> ((Int32.toInt64 (4 : Int32)).toUInt64 &&& Int64.toUInt64 63)).toInt64) &&& (1085102592571150095 : Int64)) >>> ((Int32.toInt64 (8 : Int32)).toUInt64 &&& Int64.toUInt64 63)).toInt64) + (Int64.toUInt64 (((((((lN n) - ((Int64.toUInt64 (lN n) >>> ((Int32.toInt64 (1 : Int32)).toUInt64 &&& Int64.toUInt64 63)).toInt64 &&& (6148914691236517205 : Int64))) &&& (3689348814741910323 : Int64)) + ((Int64.toUInt64 ((lN n) - ((Int64.toUInt64 (lN n) >>> ((Int32.toInt64 (1 : Int32)).toUInt64 &&& Int64.toUInt64 63)).toInt64 &&& (6148914691236517205 : Int64))) >>> ((Int32.toInt64 (2 : Int32)).toUInt64 &&& Int64.toUInt64 63)).toInt64 &&& (3689348814741910323 : Int64))) + (Int64.toUInt64 ((((lN n) - ((Int64.toUInt64 (lN n) >>> ((Int32.toInt64 (1 : Int32)).toUInt64 &&& Int64.toUInt64 63)).toInt64 &&& (6148914691236517205 : Int64))) &&& (3689348814741910323 : Int64)) + ((Int64.toUInt64 ((lN n) - ((Int64.toUInt64 (lN n) >>> ((Int32.toInt64 (1 : Int32)).toUInt64 &&& Int64.toUInt64 63)).toInt64 &&& (6148914691236517205 : Int64))) >>> ((Int32.toInt64 (2 : Int32)).toUInt64 &&& Int64.toUInt64 63)).toInt64 &&& (3689348814741910323 : Int64))) >>> ((Int32.toInt64 (4 : Int32)).toUInt64 &&& Int64.toUInt64 63)).toInt64) &&& (1085102592571150095 : Int64)) + (Int64.toUInt64 ((((((lN n) - ((Int64.toUInt64 (lN n) >>> ((Int32.toInt64 (1 : Int32)).toUInt64 &&& Int64.toUInt64 63)).toInt64 &&& (6148914691236517205 : Int64))) &&& (3689348814741910323 : Int64)) + ((Int64.toUInt64 ((lN n) - ((Int64.toUInt64 (lN n) >>> ((Int32.toInt64 (1 : Int32)).toUInt64 &&& Int64.toUInt64 63)).toInt64 &&& (6148914691236517205 : Int64))) >>> ((Int32.toInt64 (2 : Int32)).toUInt64 &&& Int64.toUInt64 63)).toInt64 &&& (3689348814741910323 : Int64))) + (Int64.toUInt64 ((((lN n) - ((Int64.toUInt64 (lN n) >>> ((Int32.toInt64 (1 : Int32)).toUInt64 &&& Int64.toUInt64 63)).toInt64 &&& (6148914691236517205 : Int64))) &&& (3689348814741910323 : Int64)) + ((Int64.toUInt64 ((lN n) - ((Int64.toUInt64 (lN n) >>> ((Int32.toInt64 (1 : Int32)).toUInt64 &&& Int64.toUInt64 63)).toInt64 &&& (6148914691236517205 : Int64))) >>> ((Int32.toInt64 (2 : Int32)).toUInt64 &&& Int64.toUInt64 63)).toInt64 &&& (3689348814741910323 : Int64))) >>> ((Int32.toInt64 (4 : Int32)).toUInt64 &&& Int64.toUInt64 63)).toInt64) &&& (1085102592571150095 : Int64)) >>> ((Int32.toInt64 (8 : Int32)).toUInt64 &&& Int64.toUInt64 63)).toInt64) >>> ((Int32.toInt64 (16 : Int32)).toUInt64 &&& Int64.toUInt64 63)).toInt64) + (Int64.toUInt64 ((((((((lN n) - ((Int64.toUInt64 (lN n) >>> ((Int32.toInt64 (1 : Int32)).toUInt64 &&& Int64.toUInt64 63)).toInt64 &&& (6148914691236517205 : Int64))) &&& (3689348814741910323 : Int64)) + ((Int64.toUInt64 ((lN n) - ((Int64.toUInt64 (lN n) >>> ((Int32.toInt64 (1 : Int32)).toUInt64 &&& Int64.toUInt64 63)).toInt64 &&& (6148914691236517205 : Int64))) >>> ((Int32.toInt64 (2 : Int32)).toUInt64 &&& Int64.toUInt64 63)).toInt64 &&& (3689348814741910323 : Int64))) + (Int64.toUInt64 ((((lN n) - ((Int64.toUInt64 (lN n) >>> ((Int32.toInt64 (1 : Int32)).toUInt64 &&& Int64.toUInt64 63)).toInt64 &&& (6148914691236517205 : Int64))) &&& (3689348814741910323 : Int64)) + ((Int64.toUInt64 ((lN n) - ((Int64.toUInt64 (lN n) >>> ((Int32.toInt64 (1 : Int32)).toUInt64 &&& Int64.toUInt64 63)).toInt64 &&& (6148914691236517205 : Int64))) >>> ((Int32.toInt64 (2 : Int32)).toUInt64 &&& Int64.toUInt64 63)).toInt64 &&& (3689348814741910323 : Int64))) >>> ((Int32.toInt64 (4 : Int32)).toUInt64 &&& Int64.toUInt64 63)).toInt64) &&& (1085102592571150095 : Int64)) + (Int64.toUInt64 ((((((lN n) - ((Int64.toUInt64 (lN n) >>> ((Int32.toInt64 (1 : Int32)).toUInt64 &&& Int64.toUInt64 63)).toInt64 &&& (6148914691236517205 : Int64))) &&& (3689348814741910323 : Int64)) + ((Int64.toUInt64 ((lN n) - ((Int64.toUInt64 (lN n) >>> ((Int32.toInt64 (1 : Int32)).toUInt64 &&& Int64.toUInt64 63)).toInt64 &&& (6148914691236517205 : Int64))) >>> ((Int32.toInt64 (2 : Int32)).toUInt64 &&& Int64.toUInt64 63)).toInt64 &&& (3689348814741910323 : Int64))) + (Int64.toUInt64 ((((lN n) - ((Int64.toUInt64 (lN n) >>> ((Int32.toInt64 (1 : Int32)).toUInt64 &&& Int64.toUInt64 63)).toInt64 &&& (6148914691236517205 : Int64))) &&& (3689348814741910323 : Int64)) + ((Int64.toUInt64 ((lN n) - ((Int64.toUInt64 (lN n) >>> ((Int32.toInt64 (1 : Int32)).toUInt64 &&& Int64.toUInt64 63)).toInt64 &&& (6148914691236517205 : Int64))) >>> ((Int32.toInt64 (2 : Int32)).toUInt64 &&& Int64.toUInt64 63)).toInt64 &&& (3689348814741910323 : Int64))) >>> ((Int32.toInt64 (4 : Int32)).toUInt64 &&& Int64.toUInt64 63)).toInt64) &&& (1085102592571150095 : Int64)) >>> ((Int32.toInt64 (8 : Int32)).toUInt64 &&& Int64.toUInt64 63)).toInt64) + (Int64.toUInt64 (((((((lN n) - ((Int64.toUInt64 (lN n) >>> ((Int32.toInt64 (1 : Int32)).toUInt64 &&& Int64.toUInt64 63)).toInt64 &&& (6148914691236517205 : Int64))) &&& (3689348814741910323 : Int64)) + ((Int64.toUInt64 ((lN n) - ((Int64.toUInt64 (lN n) >>> ((Int32.toInt64 (1 : Int32)).toUInt64 &&& Int64.toUInt64 63)).toInt64 &&& (6148914691236517205 : Int64))) >>> ((Int32.toInt64 (2 : Int32)).toUInt64 &&& Int64.toUInt64 63)).toInt64 &&& (3689348814741910323 : Int64))) + (Int64.toUInt64 ((((lN n) - ((Int64.toUInt64 (lN n) >>> ((Int32.toInt64 (1 : Int32)).toUInt64 &&& Int64.toUInt64 63)).toInt64 &&& (6148914691236517205 : Int64))) &&& (3689348814741910323 : Int64)) + ((Int64.toUInt64 ((lN n) - ((Int64.toUInt64 (lN n) >>> ((Int32.toInt64 (1 : Int32)).toUInt64 &&& Int64.toUInt64 63)).toInt64 &&& (6148914691236517205 : Int64))) >>> ((Int32.toInt64 (2 : Int32)).toUInt64 &&& Int64.toUInt64 63)).toInt64 &&& (3689348814741910323 : Int64))) >>> ((Int32.toInt64 (4 : Int32)).toUInt64 &&& Int64.toUInt64 63)).toInt64) &&& (1085102592571150095 : Int64)) + (Int64.toUInt64 ((((((lN n) - ((Int64.toUInt64 (lN n) >>> ((Int32.toInt64 (1 : Int32)).toUInt64 &&& Int64.toUInt64 63)).toInt64 &&& (6148914691236517205 : Int64))) &&& (3689348814741910323 : Int64)) + ((Int64.toUInt64 ((lN n) - ((Int64.toUInt64 (lN n) >>> ((Int32.toInt64 (1 : Int32)).toUInt64 &&& Int64.toUInt64 63)).toInt64 &&& (6148914691236517205 : Int64))) >>> ((Int32.toInt64 (2 : Int32)).toUInt64 &&& Int64.toUInt64 63)).toInt64 &&& (3689348814741910323 : Int64))) + (Int64.toUInt64 ((((lN n) - ((Int64.toUInt64 (lN n) >>> ((Int32.toInt64 (1 : Int32)).toUInt64 &&& Int64.toUInt64 63)).toInt64 &&& (6148914691236517205 : Int64))) &&& (3689348814741910323 : Int64)) + ((Int64.toUInt64 ((lN n) - ((Int64.toUInt64 (lN n) >>> ((Int32.toInt64 (1 : Int32)).toUInt64 &&& Int64.toUInt64 63)).toInt64 &&& (6148914691236517205 : Int64))) >>> ((Int32.toInt64 (2 : Int32)).toUInt64 &&& Int64.toUInt64 63)).toInt64 &&& (3689348814741910323 : Int64))) >>> ((Int32.toInt64 (4 : Int32)).toUInt64 &&& Int64.toUInt64 63)).toInt64) &&& (1085102592571150095 : Int64)) >>> ((Int32.toInt64 (8 : Int32)).toUInt64 &&& Int64.toUInt64 63)).toInt64) >>> ((Int32.toInt64 (16 : Int32)).toUInt64 &&& Int64.toUInt64 63)).toInt64) >>> ((Int32.toInt64 (32 : Int32)).toUInt64 &&& Int64.toUInt64 63)).toInt64)) &&& (127 : Int32)) = nI (cnt (lN n) 40) := by
  have s1 : ∀ k, k < 2 ^ 64 → (Int64.toUInt64 (lN k) >>> ((Int32.toInt64 (1 : Int32)).toUInt64 &&& Int64.toUInt64 63)).toInt64 = lN (k / 2) := fun k hk => wb_shr (k := 1) hk (by decide)
  have s2 : ∀ k, k < 2 ^ 64 → (Int64.toUInt64 (lN k) >>> ((Int32.toInt64 (2 : Int32)).toUInt64 &&& Int64.toUInt64 63)).toInt64 = lN (k / 4) := fun k hk => wb_shr (k := 2) hk (by decide)
  have s4 : ∀ k, k < 2 ^ 64 → (Int64.toUInt64 (lN k) >>> ((Int32.toInt64 (4 : Int32)).toUInt64 &&& Int64.toUInt64 63)).toInt64 = lN (k / 16) := fun k hk => wb_shr (k := 4) hk (by decide)
  have s8 : ∀ k, k < 2 ^ 64 → (Int64.toUInt64 (lN k) >>> ((Int32.toInt64 (8 : Int32)).toUInt64 &&& Int64.toUInt64 63)).toInt64 = lN (k / 256) := fun k hk => wb_shr (k := 8) hk (by decide)
  have s16 : ∀ k, k < 2 ^ 64 → (Int64.toUInt64 (lN k) >>> ((Int32.toInt64 (16 : Int32)).toUInt64 &&& Int64.toUInt64 63)).toInt64 = lN (k / 65536) := fun k hk => wb_shr (k := 16) hk (by decide)
  have s32 : ∀ k, k < 2 ^ 64 → (Int64.toUInt64 (lN k) >>> ((Int32.toInt64 (32 : Int32)).toUInt64 &&& Int64.toUInt64 63)).toInt64 = lN (k / 4294967296) := fun k hk => wb_shr (k := 32) hk (by decide)
  have c5 : (6148914691236517205 : Int64) = lN (rpb 85 8) := by decide +kernel
  have c3 : (3689348814741910323 : Int64) = lN (rpb 51 8) := by decide +kernel
  have cf : (1085102592571150095 : Int64) = lN (rpb 15 8) := by decide +kernel
  have lA : pcA n 8 < 2 ^ 64 := Nat.lt_of_le_of_lt (Nat.sub_le _ _) hn
  have lB : pcB (pcA n 8) 8 < 2 ^ 63 := by
    have b1 : (pcA n 8 &&& rpb 51 8) ≤ rpb 51 8 := Nat.and_le_right
    have b2 : (pcA n 8 / 4 &&& rpb 51 8) ≤ rpb 51 8 := Nat.and_le_right
    have b3 : rpb 51 8 = 3689348814741910323 := by decide +kernel
    unfold pcB
    omega
  have a1 : lN n - (((Int64.toUInt64 (lN n)) >>> ((Int32.toInt64 (1 : Int32)).toUInt64 &&& Int64.toUInt64 63)).toInt64 &&& (6148914691236517205 : Int64)) = lN (pcA n 8) := by
    rw [s1 n hn, c5, lN_and, lNp_sub (Nat.le_trans Nat.and_le_left (Nat.div_le_self _ _))]
    rfl
  rw [a1]
  have a2 : (lN (pcA n 8) &&& (3689348814741910323 : Int64)) + (((Int64.toUInt64 (lN (pcA n 8))) >>> ((Int32.toInt64 (2 : Int32)).toUInt64 &&& Int64.toUInt64 63)).toInt64 &&& (3689348814741910323 : Int64)) = lN (pcB (pcA n 8) 8) := by
    rw [s2 _ lA, c3, lN_and, lN_and, lNp_add]
    rfl
  rw [a2]
  have a3 : (lN (pcB (pcA n 8) 8) + ((Int64.toUInt64 (lN (pcB (pcA n 8) 8))) >>> ((Int32.toInt64 (4 : Int32)).toUInt64 &&& Int64.toUInt64 63)).toInt64) &&& (1085102592571150095 : Int64) = lN (pcT n 8) := by
    rw [s4 _ (by omega), cf, lNp_add, lN_and]
    rfl
  rw [a3]
  obtain ⟨lT, hT⟩ := pc_end _ _ _ _ _ _ _ _ _ (pc_le n 0) (pc_le n 1) (pc_le n 2) (pc_le n 3) (pc_le n 4) (pc_le n 5) (pc_le n 6) (pc_le n 7) (pcT8 n hn)
  have hP : pc1 (pby n 0) + pc1 (pby n 1) + pc1 (pby n 2) + pc1 (pby n 3) + pc1 (pby n 4) + pc1 (pby n 5) + pc1 (pby n 6) + pc1 (pby n 7) = cnt (lN n) 40 := pcs_cnt n ho
  rw [hP] at hT
  generalize pcT n 8 = T at lT hT ⊢
  rw [s8 _ (by omega), lNp_add, s16 _ (by omega), lNp_add, s32 _ (by omega), lNp_add]
  have e1 : ∀ k, (lN k).toInt32 = nI k := fun k => Int64.toInt32_ofNat'
  rw [e1, nI_127, hT]
theorem Lo_bitCount (m : Int64) (ho : ∀ i, hb m i = true → 1 ≤ i ∧ i ≤ 40) (σ : Hp) : cI rF nLo_bitCount [sJ m] σ = some (nI (cnt m 40), σ) := by
  obtain ⟨n, hn, rfl⟩ := wb_of m
  refine cI_of ((eLo_bitCount _ σ).trans ?_)
  rw [bc_core n hn ho]
