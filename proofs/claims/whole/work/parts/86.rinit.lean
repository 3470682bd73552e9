/-! The class's constructor: the room before its events. -/
/-- the cells of the room before its events: s is the first address behind the room's own -/
def RmB (σ : Hp) (rm s : Nat) : Prop :=
  σ.2.2 rm = some (rmx (some s) (some (s + 2)) (some (s + 10)) (some (s + 11)) (some (s + 13)) 0) ∧ (σ.2.2 s = some (.inr (2, [sA (some (s + 1)), sI 0])) ∧ σ.2.2 (s + 1) = some (.inl (3, 41, .inr (.inr fun _ => none)))) ∧
  (σ.2.2 (s + 2) = some (rec (some s) (some (s + 3)) (some (s + 4)) (some (s + 6)) (some (s + 8)) (some (s + 9))) ∧ σ.2.2 (s + 3) = some (.inl (2, 9, .inl fun _ => 0)) ∧ (σ.2.2 (s + 4) = some (.inr (6, [sA (some (s + 5))])) ∧ σ.2.2 (s + 5) = some arN) ∧ (σ.2.2 (s + 6) = some (.inr (6, [sA (some (s + 7))])) ∧ σ.2.2 (s + 7) = some arN) ∧ σ.2.2 (s + 8) = some (.inl (0, 41, .inl fun _ => 0)) ∧ σ.2.2 (s + 9) = some (.inl (0, 41, .inl fun _ => 0))) ∧
  σ.2.2 (s + 10) = some (.inl (5, 3, .inr (.inr fun _ => none))) ∧ (σ.2.2 (s + 11) = some (.inr (7, [sA (some (s + 12)), sI 0])) ∧ σ.2.2 (s + 12) = some (.inl (4, 24, .inr (.inr fun _ => none)))) ∧ (σ.2.2 (s + 13) = some (.inr (6, [sA (some (s + 14))])) ∧ σ.2.2 (s + 14) = some arN)
theorem Rm_init_A {σ : Hp} {rm : Nat} (hF : Hfr σ) (hr : σ.2.2 rm = some (rmx none none none none none 0)) : ∃ σ5, RmB σ5 rm σ.1 ∧ σ5.1 = σ.1 + 15 ∧ σ5.2.1 = σ.2.1 + 199 ∧ Hfr σ5 ∧ (∀ a, a < σ.1 → a ≠ rm → σ5.2.2 a = σ.2.2 a) ∧ ∀ K : Hp → Option Rs, ((rcv (mkO σ 2) [sA (some (Prod.fst σ))] 2).bind fun _ =>
    (cV rF nHi_init [sA (some (Prod.fst σ))] (mkO σ 2)).bind fun q9 =>
    (pfA q9 (some rm) 0 0 (some (Prod.fst σ))).bind fun σ12 =>
    (gfA (mkO σ12 4) (some rm) 0 0).bind fun v21 =>
    (rcv (mkO σ12 4) [sA (some (Prod.fst σ12)), sA v21] 4).bind fun _ =>
    (cV rF nRe_init [sA (some (Prod.fst σ12)), sA v21] (mkO σ12 4)).bind fun q24 =>
    (pfA q24 (some rm) 0 1 (some (Prod.fst σ12))).bind fun σ27 =>
    (mkA σ27 5 (3 : Int32)).bind fun σ32 =>
    (pfA σ32 (some rm) 0 2 (some (Prod.fst σ27))).bind fun σ35 =>
    (rcv (mkO σ35 7) [sA (some (Prod.fst σ35))] 7).bind fun _ =>
    (cV rF nWi_init [sA (some (Prod.fst σ35))] (mkO σ35 7)).bind fun q43 =>
    (pfA q43 (some rm) 0 3 (some (Prod.fst σ35))).bind fun σ46 =>
    (rcv (mkO σ46 6) [sA (some (Prod.fst σ46))] 6).bind fun _ =>
    (cV rF nSt_init [sA (some (Prod.fst σ46))] (mkO σ46 6)).bind fun q54 =>
    (pfA q54 (some rm) 0 4 (some (Prod.fst σ46))).bind K) = K σ5 := by
  have lr := hF.lt hr
  obtain ⟨s1, r1, i1, o1, a1, n1, m1, F1, k1⟩ := new_Hi hF
  have x1 : s1.2.2 rm = some (rmx none none none none none 0) := (k1 rm lr).trans hr
  let t1 : Hp := hput s1 rm (rmx (some σ.1) none none none none 0)
  have p1 : pfA s1 (some rm) 0 0 (some (Prod.fst σ)) = some t1 := (rm_put x1 _).1
  have G1 : Hfr t1 := F1.put (by omega)
  have e1 : t1.1 = σ.1 + 2 := n1
  have y1 : t1.2.2 rm = some (rmx (some σ.1) none none none none 0) := hput_same _ _ _
  have g1 : gfA (mkO t1 4) (some rm) 0 0 = some (some σ.1) := gfA_o ((hnew_ne (show rm ≠ t1.1 by omega)).trans y1) rfl
  obtain ⟨s2, r2, i2, o2, ag2, ⟨as2, aa2⟩, ⟨tr2, ta2⟩, ml2, pl2, n2, m2, F2, k2⟩ := new_Re G1 (some σ.1)
  rw [e1] at o2 ag2 as2 aa2 tr2 ta2 ml2 pl2 n2 k2
  have x2 : s2.2.2 rm = some (rmx (some σ.1) none none none none 0) := (k2 rm (by omega)).trans y1
  let t2 : Hp := hput s2 rm (rmx (some σ.1) (some (Prod.fst t1)) none none none 0)
  have p2 : pfA s2 (some rm) 0 1 (some (Prod.fst t1)) = some t2 := (rm_put x2 _).2.1
  have G2 : Hfr t2 := F2.put (by omega)
  have e2 : t2.1 = σ.1 + 10 := n2
  have y2 : t2.2.2 rm = some (rmx (some σ.1) (some (Prod.fst t1)) none none none 0) := hput_same _ _ _
  let s3 : Hp := hnew t2 3 (.inl (5, 3, .inr (.inr fun _ => none)))
  have m3 : mkA t2 5 (3 : Int32) = some s3 := rfl
  have F3 : Hfr s3 := G2.new
  have n3 : s3.1 = t2.1 + 1 := rfl
  have x3 : s3.2.2 rm = some (rmx (some σ.1) (some (Prod.fst t1)) none none none 0) := (hnew_ne (show rm ≠ t2.1 by omega)).trans y2
  have c3 : s3.2.2 t2.1 = some (.inl (5, 3, .inr (.inr fun _ => none))) := hnew_same _ _ _
  let t3 : Hp := hput s3 rm (rmx (some σ.1) (some (Prod.fst t1)) (some (Prod.fst t2)) none none 0)
  have p3 : pfA s3 (some rm) 0 2 (some (Prod.fst t2)) = some t3 := (rm_put x3 _).2.2.1
  have G3 : Hfr t3 := F3.put (by omega)
  have e3 : t3.1 = σ.1 + 11 := (show t2.1 + 1 = σ.1 + 11 by omega)
  have y3 : t3.2.2 rm = some (rmx (some σ.1) (some (Prod.fst t1)) (some (Prod.fst t2)) none none 0) := hput_same _ _ _
  obtain ⟨s4, r4, i4, o4, a4, n4, m4, F4, k4⟩ := new_Wi G3
  rw [e3] at o4 a4 n4 k4
  have x4 : s4.2.2 rm = some (rmx (some σ.1) (some (Prod.fst t1)) (some (Prod.fst t2)) none none 0) := (k4 rm (by omega)).trans y3
  let t4 : Hp := hput s4 rm (rmx (some σ.1) (some (Prod.fst t1)) (some (Prod.fst t2)) (some (Prod.fst t3)) none 0)
  have p4 : pfA s4 (some rm) 0 3 (some (Prod.fst t3)) = some t4 := (rm_put x4 _).2.2.2.1
  have G4 : Hfr t4 := F4.put (by omega)
  have e4 : t4.1 = σ.1 + 13 := n4
  have y4 : t4.2.2 rm = some (rmx (some σ.1) (some (Prod.fst t1)) (some (Prod.fst t2)) (some (Prod.fst t3)) none 0) := hput_same _ _ _
  obtain ⟨s5, r5, i5, o5, a5, n5, m5, F5, k5⟩ := new_St G4
  rw [e4] at o5 a5 n5 k5
  have x5 : s5.2.2 rm = some (rmx (some σ.1) (some (Prod.fst t1)) (some (Prod.fst t2)) (some (Prod.fst t3)) none 0) := (k5 rm (by omega)).trans y4
  let t5 : Hp := hput s5 rm (rmx (some σ.1) (some (Prod.fst t1)) (some (Prod.fst t2)) (some (Prod.fst t3)) (some (Prod.fst t4)) 0)
  have p5 : pfA s5 (some rm) 0 4 (some (Prod.fst t4)) = some t5 := (rm_put x5 _).2.2.2.2
  have G5 : Hfr t5 := F5.put (by omega)
  -- frames
  have v4 : ∀ a, a ≠ rm → a < σ.1 + 13 → t5.2.2 a = s4.2.2 a := fun a ha hl => (hput_ne ha).trans ((k5 a hl).trans (hput_ne ha))
  have v3 : ∀ a, a ≠ rm → a < σ.1 + 11 → t5.2.2 a = s3.2.2 a := fun a ha hl => (v4 a ha (by omega)).trans ((k4 a hl).trans (hput_ne ha))
  have v2 : ∀ a, a ≠ rm → a < σ.1 + 10 → t5.2.2 a = s2.2.2 a := fun a ha hl => (v3 a ha (by omega)).trans ((hnew_ne (show a ≠ t2.1 by omega)).trans (hput_ne ha))
  have v1 : ∀ a, a ≠ rm → a < σ.1 + 2 → t5.2.2 a = s1.2.2 a := fun a ha hl => (v2 a ha (by omega)).trans ((k2 a hl).trans (hput_ne ha))
  refine ⟨t5, ⟨?_, ⟨(v1 _ (by omega) (by omega)).trans o1, (v1 _ (by omega) (by omega)).trans a1⟩, ⟨(v2 _ (by omega) (by omega)).trans o2, (v2 _ (by omega) (by omega)).trans ag2, ⟨(v2 _ (by omega) (by omega)).trans as2, (v2 _ (by omega) (by omega)).trans aa2⟩, ⟨(v2 _ (by omega) (by omega)).trans tr2, (v2 _ (by omega) (by omega)).trans ta2⟩, (v2 _ (by omega) (by omega)).trans ml2, (v2 _ (by omega) (by omega)).trans pl2⟩, ?_, ⟨(v4 _ (by omega) (by omega)).trans o4, (v4 _ (by omega) (by omega)).trans a4⟩, ⟨(hput_ne (by omega)).trans o5, (hput_ne (by omega)).trans a5⟩⟩, n5, ?_, G5, fun a ha hn => ?_, fun K => ?_⟩
  · rw [show t5.2.2 rm = _ from hput_same _ _ _]
    have f1 : Prod.fst t1 = σ.1 + 2 := e1
    have f2 : Prod.fst t2 = σ.1 + 10 := e2
    have f3 : Prod.fst t3 = σ.1 + 11 := e3
    have f4 : Prod.fst t4 = σ.1 + 13 := e4
    rw [f1, f2, f3, f4]
  · rw [v3 _ (by omega) (by omega), ← e2]
    exact c3
  · show s5.2.1 = _
    have h4 : t4.2.1 = s4.2.1 := rfl
    have h3 : t3.2.1 = s2.2.1 + 3 := rfl
    have h1 : t1.2.1 = s1.2.1 := rfl
    omega
  · exact (v1 a hn (by omega)).trans (k1 a ha)
  · simp only [r1, i1, p1, g1, r2, i2, p2, m3, p3, r4, i4, p4, r5, i5, p5, Option.bind_some]
