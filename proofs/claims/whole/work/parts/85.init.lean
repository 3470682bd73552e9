/-! The beginning: the class's constructor. -/
theorem new_Hi {σ : Hp} (hF : Hfr σ) : ∃ σ1, rcv (mkO σ 2) [sA (some σ.1)] 2 = some σ.1 ∧ cV rF nHi_init [sA (some σ.1)] (mkO σ 2) = some σ1 ∧ σ1.2.2 σ.1 = some (.inr (2, [sA (some (σ.1 + 1)), sI 0])) ∧ σ1.2.2 (σ.1 + 1) = some (.inl (3, 41, .inr (.inr fun _ => none))) ∧ σ1.1 = σ.1 + 2 ∧ σ1.2.1 = σ.2.1 + 43 ∧ Hfr σ1 ∧ ∀ a, a < σ.1 → σ1.2.2 a = σ.2.2 a := by
  let σa : Hp := mkO σ 2
  have a0 : σa.2.2 σ.1 = some (.inr (2, [sA none, sI 0])) := hnew_same _ _ _
  let σb : Hp := hnew σa 41 (.inl (3, 41, .inr (.inr fun _ => none)))
  have b1 : mkA σa 3 (41 : Int32) = some σb := rfl
  have b0 : σb.2.2 σ.1 = some (.inr (2, [sA none, sI 0])) := (hnew_ne (show σ.1 ≠ σ.1 + 1 by omega)).trans a0
  have bA : σb.2.2 (σ.1 + 1) = some (.inl (3, 41, .inr (.inr fun _ => none))) := hnew_same σa _ _
  let σc : Hp := hput σb σ.1 (.inr (2, [sA (some (σ.1 + 1)), sI 0]))
  have p1 : pfA σb (some σ.1) 2 0 (some (Prod.fst σa)) = some σc := pf_o b0
  refine ⟨σc, rcv_o a0, cV_of ((eHi_init _ σa).trans ?_), hput_same _ _ _, (hput_ne (by omega)).trans bA, rfl, rfl, ((hF.new).new).put (show σ.1 < σ.1 + 1 + 1 by omega), fun a ha => ?_⟩
  · simp only [b1, p1, Option.bind_some]
  · exact (hput_ne (by omega)).trans ((hnew_ne (show a ≠ σ.1 + 1 by omega)).trans (hnew_ne (by omega)))
theorem new_Wi {σ : Hp} (hF : Hfr σ) : ∃ σ1, rcv (mkO σ 7) [sA (some σ.1)] 7 = some σ.1 ∧ cV rF nWi_init [sA (some σ.1)] (mkO σ 7) = some σ1 ∧ σ1.2.2 σ.1 = some (.inr (7, [sA (some (σ.1 + 1)), sI 0])) ∧ σ1.2.2 (σ.1 + 1) = some (.inl (4, 24, .inr (.inr fun _ => none))) ∧ σ1.1 = σ.1 + 2 ∧ σ1.2.1 = σ.2.1 + 26 ∧ Hfr σ1 ∧ ∀ a, a < σ.1 → σ1.2.2 a = σ.2.2 a := by
  let σa : Hp := mkO σ 7
  have a0 : σa.2.2 σ.1 = some (.inr (7, [sA none, sI 0])) := hnew_same _ _ _
  let σb : Hp := hnew σa 24 (.inl (4, 24, .inr (.inr fun _ => none)))
  have b1 : mkA σa 4 (24 : Int32) = some σb := rfl
  have b0 : σb.2.2 σ.1 = some (.inr (7, [sA none, sI 0])) := (hnew_ne (show σ.1 ≠ σ.1 + 1 by omega)).trans a0
  have bA : σb.2.2 (σ.1 + 1) = some (.inl (4, 24, .inr (.inr fun _ => none))) := hnew_same σa _ _
  let σc : Hp := hput σb σ.1 (.inr (7, [sA (some (σ.1 + 1)), sI 0]))
  have p1 : pfA σb (some σ.1) 7 0 (some (Prod.fst σa)) = some σc := pf_o b0
  refine ⟨σc, rcv_o a0, cV_of ((eWi_init _ σa).trans ?_), hput_same _ _ _, (hput_ne (by omega)).trans bA, rfl, rfl, ((hF.new).new).put (show σ.1 < σ.1 + 1 + 1 by omega), fun a ha => ?_⟩
  · simp only [b1, p1, Option.bind_some]
  · exact (hput_ne (by omega)).trans ((hnew_ne (show a ≠ σ.1 + 1 by omega)).trans (hnew_ne (by omega)))
def rec (h a b c d e : Option Nat) : Cl := .inr (4, [sA h, sA a, sA b, sA c, sA d, sA e])
theorem new_Re {σ : Hp} (hF : Hfr σ) (h : Option Nat) : ∃ σ1, rcv (mkO σ 4) [sA (some σ.1), sA h] 4 = some σ.1 ∧ cV rF nRe_init [sA (some σ.1), sA h] (mkO σ 4) = some σ1 ∧ σ1.2.2 σ.1 = some (rec h (some (σ.1 + 1)) (some (σ.1 + 2)) (some (σ.1 + 4)) (some (σ.1 + 6)) (some (σ.1 + 7))) ∧ σ1.2.2 (σ.1 + 1) = some (.inl (2, 9, .inl fun _ => 0)) ∧ (σ1.2.2 (σ.1 + 2) = some (.inr (6, [sA (some (σ.1 + 3))])) ∧ σ1.2.2 (σ.1 + 3) = some arN) ∧ (σ1.2.2 (σ.1 + 4) = some (.inr (6, [sA (some (σ.1 + 5))])) ∧ σ1.2.2 (σ.1 + 5) = some arN) ∧ σ1.2.2 (σ.1 + 6) = some (.inl (0, 41, .inl fun _ => 0)) ∧ σ1.2.2 (σ.1 + 7) = some (.inl (0, 41, .inl fun _ => 0)) ∧ σ1.1 = σ.1 + 8 ∧ σ1.2.1 = σ.2.1 + 117 ∧ Hfr σ1 ∧ ∀ a, a < σ.1 → σ1.2.2 a = σ.2.2 a := by
  let s0 : Hp := mkO σ 4
  have x0 : s0.2.2 σ.1 = some (rec none none none none none none) := hnew_same _ _ _
  have F0 : Hfr s0 := hF.new
  -- agreed
  let s1 : Hp := hnew s0 9 (.inl (2, 9, .inl fun _ => 0))
  have m1 : mkA s0 2 (9 : Int32) = some s1 := rfl
  have x1 : s1.2.2 σ.1 = some (rec none none none none none none) := (hnew_ne (show σ.1 ≠ σ.1 + 1 by omega)).trans x0
  let s2 : Hp := hput s1 σ.1 (rec none (some (σ.1 + 1)) none none none none)
  have p2 : pfA s1 (some σ.1) 4 1 (some (Prod.fst s0)) = some s2 := pf_o x1
  have g2 : s2.2.2 (σ.1 + 1) = some (.inl (2, 9, .inl fun _ => 0)) := (hput_ne (show σ.1 + 1 ≠ σ.1 by omega)).trans (hnew_same s0 _ _)
  have F2 : Hfr s2 := (F0.new).put (show σ.1 < σ.1 + 1 + 1 by omega)
  have n2 : s2.1 = σ.1 + 2 := rfl
  -- agreedState
  obtain ⟨s3, r3, i3, o3, a3, n3, q3, F3, k3⟩ := new_St F2
  rw [n2] at o3 a3 n3 k3
  have x3 : s3.2.2 σ.1 = some (rec none (some (σ.1 + 1)) none none none none) := (k3 σ.1 (by omega)).trans (hput_same _ _ _)
  let s4 : Hp := hput s3 σ.1 (rec none (some (σ.1 + 1)) (some (Prod.fst s2)) none none none)
  have p4 : pfA s3 (some σ.1) 4 2 (some (Prod.fst s2)) = some s4 := pf_o x3
  have F4 : Hfr s4 := F3.put (by omega)
  have n4 : s4.1 = σ.1 + 4 := n3
  -- trial
  obtain ⟨s5, r5, i5, o5, a5, n5, q5, F5, k5⟩ := new_St F4
  rw [n4] at o5 a5 n5 k5
  have x5 : s5.2.2 σ.1 = some (rec none (some (σ.1 + 1)) (some (Prod.fst s2)) none none none) := (k5 σ.1 (by omega)).trans (hput_same _ _ _)
  let s6 : Hp := hput s5 σ.1 (rec none (some (σ.1 + 1)) (some (Prod.fst s2)) (some (Prod.fst s4)) none none)
  have p6 : pfA s5 (some σ.1) 4 3 (some (Prod.fst s4)) = some s6 := pf_o x5
  have F6 : Hfr s6 := F5.put (by omega)
  have n6 : s6.1 = σ.1 + 6 := n5
  -- mainline
  let s7 : Hp := hnew s6 41 (.inl (0, 41, .inl fun _ => 0))
  have m7 : mkA s6 0 (41 : Int32) = some s7 := rfl
  have x7 : s7.2.2 σ.1 = some (rec none (some (σ.1 + 1)) (some (Prod.fst s2)) (some (Prod.fst s4)) none none) := (hnew_ne (show σ.1 ≠ s6.1 by omega)).trans (hput_same _ _ _)
  have n7 : s7.1 = s6.1 + 1 := rfl
  let s8 : Hp := hput s7 σ.1 (rec none (some (σ.1 + 1)) (some (Prod.fst s2)) (some (Prod.fst s4)) (some (Prod.fst s6)) none)
  have p8 : pfA s7 (some σ.1) 4 4 (some (Prod.fst s6)) = some s8 := pf_o x7
  have F8 : Hfr s8 := Hfr.put (show Hfr s7 from F6.new) (show σ.1 < s7.1 by omega)
  have n8 : s8.1 = σ.1 + 7 := by
    show s6.1 + 1 = σ.1 + 7
    omega
  -- places
  let s9 : Hp := hnew s8 41 (.inl (0, 41, .inl fun _ => 0))
  have m9 : mkA s8 0 (41 : Int32) = some s9 := rfl
  have x9 : s9.2.2 σ.1 = some (rec none (some (σ.1 + 1)) (some (Prod.fst s2)) (some (Prod.fst s4)) (some (Prod.fst s6)) none) := (hnew_ne (show σ.1 ≠ s8.1 by omega)).trans (hput_same _ _ _)
  let s10 : Hp := hput s9 σ.1 (rec none (some (σ.1 + 1)) (some (Prod.fst s2)) (some (Prod.fst s4)) (some (Prod.fst s6)) (some (Prod.fst s8)))
  have p10 : pfA s9 (some σ.1) 4 5 (some (Prod.fst s8)) = some s10 := pf_o x9
  let s11 : Hp := hput s10 σ.1 (rec h (some (σ.1 + 1)) (some (Prod.fst s2)) (some (Prod.fst s4)) (some (Prod.fst s6)) (some (Prod.fst s8)))
  have p11 : pfA s10 (some σ.1) 4 0 h = some s11 := pf_o (hput_same _ _ _)
  have n9 : s9.1 = s8.1 + 1 := rfl
  have F11 : Hfr s11 := (Hfr.put (show Hfr s9 from F8.new) (show σ.1 < s9.1 by omega)).put (show σ.1 < s9.1 by omega)
  -- frames
  have u8 : ∀ a, a ≠ σ.1 → a ≠ σ.1 + 7 → s11.2.2 a = s8.2.2 a := fun a h1 h2 => (hput_ne h1).trans ((hput_ne h1).trans (hnew_ne (show a ≠ s8.1 by omega)))
  have u6 : ∀ a, a ≠ σ.1 → a ≠ σ.1 + 7 → a ≠ σ.1 + 6 → s11.2.2 a = s5.2.2 a := fun a h1 h2 h3 => (u8 a h1 h2).trans ((hput_ne h1).trans ((hnew_ne (show a ≠ s6.1 by omega)).trans (hput_ne h1)))
  have u4 : ∀ a, a ≠ σ.1 → a < σ.1 + 4 → s11.2.2 a = s3.2.2 a := fun a h1 h2 => (u6 a h1 (by omega) (by omega)).trans ((k5 a h2).trans (hput_ne h1))
  have u2 : ∀ a, a ≠ σ.1 → a < σ.1 + 2 → s11.2.2 a = s2.2.2 a := fun a h1 h2 => (u4 a h1 (by omega)).trans (k3 a h2)
  refine ⟨s11, rcv_o x0, cV_of ((eRe_init _ _ s0).trans ?_), ?_, (u2 _ (show σ.1 + 1 ≠ σ.1 by omega) (show σ.1 + 1 < σ.1 + 2 by omega)).trans g2, ⟨(u4 _ (show σ.1 + 2 ≠ σ.1 by omega) (show σ.1 + 2 < σ.1 + 4 by omega)).trans o3, (u4 _ (show σ.1 + 3 ≠ σ.1 by omega) (show σ.1 + 3 < σ.1 + 4 by omega)).trans a3⟩, ⟨(u6 _ (show σ.1 + 4 ≠ σ.1 by omega) (show σ.1 + 4 ≠ σ.1 + 7 by omega) (show σ.1 + 4 ≠ σ.1 + 6 by omega)).trans o5, (u6 _ (show σ.1 + 5 ≠ σ.1 by omega) (show σ.1 + 5 ≠ σ.1 + 7 by omega) (show σ.1 + 5 ≠ σ.1 + 6 by omega)).trans a5⟩, ?_, ?_, ?_, ?_, F11, fun a ha => ?_⟩
  · simp only [m1, p2, r3, i3, p4, r5, i5, p6, m7, p8, m9, p10, p11, Option.bind_some]
  · show s11.2.2 σ.1 = _
    rw [hput_same]
    have e2 : Prod.fst s2 = σ.1 + 2 := n2
    have e4 : Prod.fst s4 = σ.1 + 4 := n4
    have e6 : Prod.fst s6 = σ.1 + 6 := n6
    have e8 : Prod.fst s8 = σ.1 + 7 := n8
    rw [e2, e4, e6, e8]
  · refine (u8 (σ.1 + 6) (show σ.1 + 6 ≠ σ.1 by omega) (show σ.1 + 6 ≠ σ.1 + 7 by omega)).trans ((hput_ne (show σ.1 + 6 ≠ σ.1 by omega)).trans ?_)
    have e6 : σ.1 + 6 = s6.1 := n6.symm
    rw [e6]
    exact hnew_same s6 _ _
  · refine (hput_ne (show σ.1 + 7 ≠ σ.1 by omega)).trans ((hput_ne (show σ.1 + 7 ≠ σ.1 by omega)).trans ?_)
    have e8 : σ.1 + 7 = s8.1 := n8.symm
    rw [e8]
    exact hnew_same s8 _ _
  · show s8.1 + 1 = _
    rw [n8]
  · show s8.2.1 + 41 = _
    have e8 : s8.2.1 = s5.2.1 + 41 := rfl
    have e4 : s4.2.1 = s3.2.1 := rfl
    have e2 : s2.2.1 = σ.2.1 + 6 + 9 := rfl
    omega
  · exact (u2 a (show a ≠ σ.1 by omega) (show a < σ.1 + 2 by omega)).trans ((hput_ne (show a ≠ σ.1 by omega)).trans ((hnew_ne (show a ≠ σ.1 + 1 by omega)).trans (hnew_ne (by omega))))
def rmx (a b c d e : Option Nat) (n : Int32) : Cl := .inr (0, [sA a, sA b, sA c, sA d, sA e, sI n])
/-- a field of the room is written -/
theorem rm_put {σ : Hp} {x : Nat} {a b c d e : Option Nat} {n : Int32} (h : σ.2.2 x = some (rmx a b c d e n)) (y : Option Nat) : pfA σ (some x) 0 0 y = some (hput σ x (rmx y b c d e n)) ∧ pfA σ (some x) 0 1 y = some (hput σ x (rmx a y c d e n)) ∧ pfA σ (some x) 0 2 y = some (hput σ x (rmx a b y d e n)) ∧ pfA σ (some x) 0 3 y = some (hput σ x (rmx a b c y e n)) ∧ pfA σ (some x) 0 4 y = some (hput σ x (rmx a b c d y n)) := ⟨pf_o h, pf_o h, pf_o h, pf_o h, pf_o h⟩
