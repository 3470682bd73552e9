/-! The reference: how its object is held; its methods that read. -/
def mlen (k : Nat) : Nat := if k = 1 then 3 else if k ≤ 10 then 41 else if k = 11 then 369 else if k ≤ 15 then 9 else if k = 16 then 41 else if k = 17 then 123 else 24
def mcell (I : Nat → Nat → Int32) (L : Nat → Nat → Int64) (k : Nat) : Cl := if k = 7 ∨ k = 8 ∨ k = 9 then .inl (1, mlen k, .inr (.inl (L k))) else if k = 10 ∨ k = 15 ∨ k = 22 then .inl (2, mlen k, .inl (I k)) else .inl (0, mlen k, .inl (I k))
def moc (o : Nat) (w : Int32 × Int32 × Int32) : Cl := .inr (8, [sI w.1, sA (some (o + 1)), sI w.2.1, sA (some (o + 2)), sA (some (o + 3)), sA (some (o + 4)), sA (some (o + 5)), sA (some (o + 6)), sA (some (o + 7)), sA (some (o + 8)), sA (some (o + 9)), sA (some (o + 10)), sA (some (o + 11)), sA (some (o + 12)), sA (some (o + 13)), sA (some (o + 14)), sA (some (o + 15)), sA (some (o + 16)), sA (some (o + 17)), sI w.2.2, sA (some (o + 18)), sA (some (o + 19)), sA (some (o + 20)), sA (some (o + 21)), sA (some (o + 22))])
/-- the reference at o: now, made, flying; its arrays in the 22 cells behind it -/
def MoR (σ : Hp) (o : Nat) (w : Int32 × Int32 × Int32) (I : Nat → Nat → Int32) (L : Nat → Nat → Int64) : Prop := σ.2.2 o = some (moc o w) ∧ ∀ k, 1 ≤ k → k ≤ 22 → σ.2.2 (o + k) = some (mcell I L k)
theorem mlen_lt (k : Nat) : mlen k < 2 ^ 31 := by
  unfold mlen
  repeat' split
  all_goals decide
section MOR
variable {σ : Hp} {o : Nat} {w : Int32 × Int32 × Int32} {I : Nat → Nat → Int32} {L : Nat → Nat → Int64}
theorem MoR.f1 (h : MoR σ o w I L) : gfA σ (some o) 8 1 = some (some (o + 1)) := gfA_o h.1 rfl
theorem MoR.f3 (h : MoR σ o w I L) : gfA σ (some o) 8 3 = some (some (o + 2)) := gfA_o h.1 rfl
theorem MoR.f4 (h : MoR σ o w I L) : gfA σ (some o) 8 4 = some (some (o + 3)) := gfA_o h.1 rfl
theorem MoR.f5 (h : MoR σ o w I L) : gfA σ (some o) 8 5 = some (some (o + 4)) := gfA_o h.1 rfl
theorem MoR.f6 (h : MoR σ o w I L) : gfA σ (some o) 8 6 = some (some (o + 5)) := gfA_o h.1 rfl
theorem MoR.f7 (h : MoR σ o w I L) : gfA σ (some o) 8 7 = some (some (o + 6)) := gfA_o h.1 rfl
theorem MoR.f8 (h : MoR σ o w I L) : gfA σ (some o) 8 8 = some (some (o + 7)) := gfA_o h.1 rfl
theorem MoR.f9 (h : MoR σ o w I L) : gfA σ (some o) 8 9 = some (some (o + 8)) := gfA_o h.1 rfl
theorem MoR.f10 (h : MoR σ o w I L) : gfA σ (some o) 8 10 = some (some (o + 9)) := gfA_o h.1 rfl
theorem MoR.f11 (h : MoR σ o w I L) : gfA σ (some o) 8 11 = some (some (o + 10)) := gfA_o h.1 rfl
theorem MoR.f12 (h : MoR σ o w I L) : gfA σ (some o) 8 12 = some (some (o + 11)) := gfA_o h.1 rfl
theorem MoR.f13 (h : MoR σ o w I L) : gfA σ (some o) 8 13 = some (some (o + 12)) := gfA_o h.1 rfl
theorem MoR.f14 (h : MoR σ o w I L) : gfA σ (some o) 8 14 = some (some (o + 13)) := gfA_o h.1 rfl
theorem MoR.f15 (h : MoR σ o w I L) : gfA σ (some o) 8 15 = some (some (o + 14)) := gfA_o h.1 rfl
theorem MoR.f16 (h : MoR σ o w I L) : gfA σ (some o) 8 16 = some (some (o + 15)) := gfA_o h.1 rfl
theorem MoR.f17 (h : MoR σ o w I L) : gfA σ (some o) 8 17 = some (some (o + 16)) := gfA_o h.1 rfl
theorem MoR.f18 (h : MoR σ o w I L) : gfA σ (some o) 8 18 = some (some (o + 17)) := gfA_o h.1 rfl
theorem MoR.f20 (h : MoR σ o w I L) : gfA σ (some o) 8 20 = some (some (o + 18)) := gfA_o h.1 rfl
theorem MoR.f21 (h : MoR σ o w I L) : gfA σ (some o) 8 21 = some (some (o + 19)) := gfA_o h.1 rfl
theorem MoR.f22 (h : MoR σ o w I L) : gfA σ (some o) 8 22 = some (some (o + 20)) := gfA_o h.1 rfl
theorem MoR.f23 (h : MoR σ o w I L) : gfA σ (some o) 8 23 = some (some (o + 21)) := gfA_o h.1 rfl
theorem MoR.f24 (h : MoR σ o w I L) : gfA σ (some o) 8 24 = some (some (o + 22)) := gfA_o h.1 rfl
theorem MoR.now (h : MoR σ o w I L) : gfI σ (some o) 8 0 = some w.1 := gfI_o h.1 rfl
theorem MoR.made (h : MoR σ o w I L) : gfI σ (some o) 8 2 = some w.2.1 := gfI_o h.1 rfl
theorem MoR.fly (h : MoR σ o w I L) : gfI σ (some o) 8 19 = some w.2.2 := gfI_o h.1 rfl
theorem MoR.rc (h : MoR σ o w I L) (t : List sv) : rcv σ (sA (some o) :: t) 8 = some o := rcv_o h.1
theorem MoR.aI (h : MoR σ o w I L) (k : Nat) (h1 : 1 ≤ k) (h2 : k ≤ 22) (hc : mcell I L k = .inl (0, mlen k, .inl (I k))) {j : Nat} (hj : j < mlen k) : alI σ (some (o + k)) (nI j) = some (I k j) := alI_o (by rw [h.2 k h1 h2, hc]) hj (mlen_lt k)
theorem MoR.aZ (h : MoR σ o w I L) (k : Nat) (h1 : 1 ≤ k) (h2 : k ≤ 22) (hc : mcell I L k = .inl (2, mlen k, .inl (I k))) {j : Nat} (hj : j < mlen k) : alZ σ (some (o + k)) (nI j) = some (I k j) := alZ_o (by rw [h.2 k h1 h2, hc]) hj (mlen_lt k)
theorem MoR.aJ (h : MoR σ o w I L) (k : Nat) (h1 : 1 ≤ k) (h2 : k ≤ 22) (hc : mcell I L k = .inl (1, mlen k, .inr (.inl (L k)))) {j : Nat} (hj : j < mlen k) : alJ σ (some (o + k)) (nI j) = some (L k j) := alJ_o (by rw [h.2 k h1 h2, hc]) hj (mlen_lt k)
theorem MoR.g2 (h : MoR σ o w I L) {j : Nat} (hj : j < 41) : alI σ (some (o + 2)) (nI j) = some (I 2 j) := h.aI 2 (by decide) (by decide) rfl hj
theorem MoR.g3 (h : MoR σ o w I L) {j : Nat} (hj : j < 41) : alI σ (some (o + 3)) (nI j) = some (I 3 j) := h.aI 3 (by decide) (by decide) rfl hj
theorem MoR.g4 (h : MoR σ o w I L) {j : Nat} (hj : j < 41) : alI σ (some (o + 4)) (nI j) = some (I 4 j) := h.aI 4 (by decide) (by decide) rfl hj
theorem MoR.g5 (h : MoR σ o w I L) {j : Nat} (hj : j < 41) : alI σ (some (o + 5)) (nI j) = some (I 5 j) := h.aI 5 (by decide) (by decide) rfl hj
theorem MoR.g6 (h : MoR σ o w I L) {j : Nat} (hj : j < 41) : alI σ (some (o + 6)) (nI j) = some (I 6 j) := h.aI 6 (by decide) (by decide) rfl hj
theorem MoR.g16 (h : MoR σ o w I L) {j : Nat} (hj : j < 41) : alI σ (some (o + 16)) (nI j) = some (I 16 j) := h.aI 16 (by decide) (by decide) rfl hj
theorem MoR.g7 (h : MoR σ o w I L) {j : Nat} (hj : j < 41) : alJ σ (some (o + 7)) (nI j) = some (L 7 j) := h.aJ 7 (by decide) (by decide) rfl hj
theorem MoR.g8 (h : MoR σ o w I L) {j : Nat} (hj : j < 41) : alJ σ (some (o + 8)) (nI j) = some (L 8 j) := h.aJ 8 (by decide) (by decide) rfl hj
theorem MoR.g9 (h : MoR σ o w I L) {j : Nat} (hj : j < 41) : alJ σ (some (o + 9)) (nI j) = some (L 9 j) := h.aJ 9 (by decide) (by decide) rfl hj
theorem MoR.g10 (h : MoR σ o w I L) {j : Nat} (hj : j < 41) : alZ σ (some (o + 10)) (nI j) = some (I 10 j) := h.aZ 10 (by decide) (by decide) rfl hj
theorem MoR.g15 (h : MoR σ o w I L) {j : Nat} (hj : j < 9) : alZ σ (some (o + 15)) (nI j) = some (I 15 j) := h.aZ 15 (by decide) (by decide) rfl hj
theorem MoR.g12 (h : MoR σ o w I L) {j : Nat} (hj : j < 9) : alI σ (some (o + 12)) (nI j) = some (I 12 j) := h.aI 12 (by decide) (by decide) rfl hj
theorem MoR.g13 (h : MoR σ o w I L) {j : Nat} (hj : j < 9) : alI σ (some (o + 13)) (nI j) = some (I 13 j) := h.aI 13 (by decide) (by decide) rfl hj
theorem MoR.g14 (h : MoR σ o w I L) {j : Nat} (hj : j < 9) : alI σ (some (o + 14)) (nI j) = some (I 14 j) := h.aI 14 (by decide) (by decide) rfl hj
theorem MoR.g11 (h : MoR σ o w I L) {j : Nat} (hj : j < 369) : alI σ (some (o + 11)) (nI j) = some (I 11 j) := h.aI 11 (by decide) (by decide) rfl hj
theorem MoR.g17 (h : MoR σ o w I L) {j : Nat} (hj : j < 123) : alI σ (some (o + 17)) (nI j) = some (I 17 j) := h.aI 17 (by decide) (by decide) rfl hj
end MOR
/-- the reference's rows hold the events' data -/
def MoE (I : Nat → Nat → Int32) (L : Nat → Nat → Int64) (E : Ed) (N : Nat) : Prop := ∀ n, 1 ≤ n → n ≤ N → I 2 n = nI (eK E n) ∧ I 3 n = nI (eS E n) ∧ I 4 n = nI (eT E n) ∧ I 5 n = eV E n ∧ I 6 n = eM E n ∧ L 7 n = eP E n ∧ L 8 n = eU E n ∧ L 9 n = eC E n
theorem Mo_has {m : Int64} {n : Nat} (h : n < 64) (σ : Hp) : cI rF nMo_has [sJ m, sI (nI n)] σ = some (if hb m n = true then 1 else 0, σ) := by
  refine cI_of ((eMo_has m (nI n) σ).trans ?_)
  simp only [has_bit h]
  cases hb m n
  · rw [if_pos (by simp), eMo_has_15, rz_0]; rfl
  · rw [if_neg (by simp), eMo_has_15, rz_1]; rfl
theorem nI0 {n : Nat} (h : n < 2 ^ 31) : nI n = 0 ↔ n = 0 := nI_eq (a := n) (b := 0) h (by decide)
theorem nIle0 {n : Nat} (h : n < 2 ^ 31) : nI n ≤ 0 ↔ n = 0 := by
  have := nI_leI (a := n) (b := 0) h (by decide)
  rw [show (0 : Int32) = nI 0 from rfl, this]
  omega
def lvM (E : Ed) (g : Nat → Nat) (u : Nat) : Int32 := if g 1 = 0 then (if u = 0 then 3 else 0) else (eV E (g 1) >>> (((2 : Int32) * nI u) &&& 31)) &&& (3 : Int32)
theorem lvM_lv {E : Ed} {g : Nat → Nat} {u : Nat} (hu : u < 6) (h0 : g 0 = 1) (h1 : eS E 1 = 0) : lvM E g u = lv E g u := by
  unfold lvM lv
  by_cases h : g 1 = 0
  · have n1 : ¬ g 0 = 0 := by omega
    rw [if_pos h, if_pos h, if_neg n1, h0, h1]
    by_cases hz : u = 0
    · have n2 : ¬ ¬ nI 0 = nI u := fun q => q (by rw [hz])
      rw [if_pos hz, if_neg n2]
    · have n2 : ¬ nI 0 = nI u := fun q => by
        have := (nI_eq (a := 0) (b := u) (by decide) (by omega)).mp q
        omega
      rw [if_neg hz, if_pos n2]
  · rw [if_neg h, if_neg h]
section MO
variable {σ : Hp} {o y e N : Nat} {w : Int32 × Int32 × Int32} {I : Nat → Nat → Int32} {L : Nat → Nat → Int64} {E : Ed} {g : Nat → Nat}
theorem Mo_in (a b c : Int32) (σ : Hp) : cI rF nMo_in [sI a, sI b, sI c] σ = some (if a < b then 0 else if c < a then 0 else 1, σ) := by
  refine cI_of ((eMo_in a b c σ).trans ?_)
  simp only [eMo_in_14, eMo_in_15, rz_0, rz_1]
  split
  · rfl
  · split <;> rfl
theorem Mo_key (h : MoR σ o w I L) (hE : MoE I L E N) (h1 : 1 ≤ e) (h2 : e ≤ N) (hN : N ≤ 40) (hk : eK E e ≤ 7) : cI rF nMo_key [sA (some o), sI (nI e)] σ = some (kyI E e, σ) := by
  refine cI_of ((eMo_key (some o) (nI e) σ).trans ?_)
  obtain ⟨q2, q3, q4, -⟩ := hE e h1 h2
  have e1 : (3 : Int32) + nI (eT E e) = nI (3 + eT E e) := nI_add 3 _
  simp only [h.f3, h.f5, h.g2 (show e < 41 by omega), h.g4 (show e < 41 by omega), q2, q4, Option.bind_some, eMo_key_64, e1]
  unfold kyI
  rcases (show eK E e = 0 ∨ eK E e = 1 ∨ eK E e = 2 ∨ eK E e = 3 ∨ eK E e = 4 ∨ eK E e = 5 ∨ eK E e = 6 ∨ eK E e = 7 by omega) with q | q | q | q | q | q | q | q <;> rw [q]
  · rfl
  · rfl
  · rfl
  · rfl
  · rfl
  · rfl
  · rfl
  · rfl
theorem Mo_membership (h : MoR σ o w I L) (hE : MoE I L E N) (hN : N ≤ 40) (hY : ∀ j, j < 9 → alI σ (some y) (nI j) = some (nI (g j))) (hg : gle g N) {u : Nat} (hu : u < 6) : cI rF nMo_membership [sA (some o), sA (some y), sI (nI u)] σ = some (mm E g u, σ) := by
  refine cI_of ((eMo_membership (some o) (some y) (nI u) σ).trans ?_)
  have e1 : (3 : Int32) + nI u = nI (3 + u) := nI_add 3 u
  have hle := hg (3 + u) (by omega)
  simp only [e1, hY (3 + u) (by omega), Option.bind_some, h.f3, h.g2 (show g (3 + u) < 41 by omega), eMo_membership_22, nI0 (show g (3 + u) < 2 ^ 31 by omega)]
  unfold mm
  by_cases hz : g (3 + u) = 0
  · rw [if_neg (fun q => q hz), if_pos hz]
  · rw [if_pos hz, if_neg hz, (hE _ (by omega) hle).1]
theorem Mo_level (h : MoR σ o w I L) (hE : MoE I L E N) (hN : N ≤ 40) (hY : ∀ j, j < 9 → alI σ (some y) (nI j) = some (nI (g j))) (hg : gle g N) {u : Nat} (hu : u < 6) : cI rF nMo_level [sA (some o), sA (some y), sI (nI u)] σ = some (lvM E g u, σ) := by
  refine cI_of ((eMo_level (some o) (some y) (nI u) σ).trans ?_)
  have hle := hg 1 (by decide)
  have hY1 : alI σ (some y) (1 : Int32) = some (nI (g 1)) := hY 1 (by decide)
  simp only [hY1, Option.bind_some, h.f6, h.g5 (show g 1 < 41 by omega), eMo_level_32, nIle0 (show g 1 < 2 ^ 31 by omega), nI0 (show u < 2 ^ 31 by omega)]
  unfold lvM
  by_cases hz : g 1 = 0
  · rw [if_pos hz, if_pos hz]
    by_cases hu0 : u = 0
    · rw [if_neg (fun q => q hu0), if_pos hu0]
    · rw [if_pos hu0, if_neg hu0]
  · rw [if_neg hz, if_neg hz, (hE _ (by omega) hle).2.2.2.1]
end MO
