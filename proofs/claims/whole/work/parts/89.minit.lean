/-! The beginning: the reference's constructor. -/
def arr (o j k : Nat) : Option Nat := if k ≤ j then some (o + k) else none
def mocL (o j : Nat) (w : Int32 × Int32 × Int32) : List sv := [sI w.1, sA (arr o j 1), sI w.2.1, sA (arr o j 2), sA (arr o j 3), sA (arr o j 4), sA (arr o j 5), sA (arr o j 6), sA (arr o j 7), sA (arr o j 8), sA (arr o j 9), sA (arr o j 10), sA (arr o j 11), sA (arr o j 12), sA (arr o j 13), sA (arr o j 14), sA (arr o j 15), sA (arr o j 16), sA (arr o j 17), sI w.2.2, sA (arr o j 18), sA (arr o j 19), sA (arr o j 20), sA (arr o j 21), sA (arr o j 22)]
def MoP (σ : Hp) (o j : Nat) : Prop := σ.2.2 o = some (.inr (8, mocL o j (0, 0, 0))) ∧ (∀ k, 1 ≤ k → k ≤ j → σ.2.2 (o + k) = some (mcell (fun _ _ => 0) (fun _ _ => 0) k)) ∧ σ.1 = o + 1 + j ∧ Hfr σ
theorem mo_stp {σ : Hp} {o : Nat} (j ak : Nat) (n : Int32) (len fld : Nat) (h : MoP σ o j) (hm : ∀ s : Hp, mkA s ak n = some (hnew s len (.inl (ak, len, azc ak)))) (hc : (.inl (ak, len, azc ak) : Cl) = mcell (fun _ _ => 0) (fun _ _ => 0) (j + 1)) (hl : len ≤ 369) (hf : (mocL o j (0, 0, 0)).set fld (sA (some (o + 1 + j))) = mocL o (j + 1) (0, 0, 0)) : ∃ σ1, MoP σ1 o (j + 1) ∧ (∀ K : Hp → Option Rs, ((mkA σ ak n).bind fun a => (pfA a (some o) 8 fld (some (Prod.fst σ))).bind K) = K σ1) ∧ σ1.2.1 ≤ σ.2.1 + 369 ∧ ∀ a, a < o → σ1.2.2 a = σ.2.2 a := by
  obtain ⟨h1, h2, h3, h4⟩ := h
  let sa : Hp := hnew σ len (.inl (ak, len, azc ak))
  have a0 : sa.2.2 o = some (.inr (8, mocL o j (0, 0, 0))) := (hnew_ne (by omega)).trans h1
  let sb : Hp := hput sa o (.inr (8, mocL o (j + 1) (0, 0, 0)))
  have p1 : pfA sa (some o) 8 fld (some (Prod.fst σ)) = some sb := by
    have hx : (some (Prod.fst σ) : Option Nat) = some (o + 1 + j) := congrArg some h3
    rw [hx]
    refine (pf_o a0).trans ?_
    rw [hf]
  refine ⟨sb, ⟨hput_same _ _ _, fun k k1 k2 => ?_, ?_, Hfr.put (show Hfr sa from h4.new) (show o < σ.1 + 1 by omega)⟩, fun K => ?_, ?_, fun a ha => (hput_ne (by omega)).trans (hnew_ne (by omega))⟩
  · refine (hput_ne (by omega)).trans ?_
    by_cases c : k = j + 1
    · subst c
      rw [← hc, show o + (j + 1) = σ.1 by omega]
      exact hnew_same _ _ _
    · exact (hnew_ne (by omega)).trans (h2 k k1 (by omega))
  · show σ.1 + 1 = _
    omega
  · rw [hm σ]
    show (pfA sa (some o) 8 fld (some (Prod.fst σ))).bind K = K sb
    rw [p1]
    rfl
  · show σ.2.1 + len ≤ _
    omega
theorem Mo_init_A {σ : Hp} {o : Nat} (hF : Hfr σ) (hn : σ.1 = o + 1) (h : σ.2.2 o = some (.inr (8, cdf 8))) : ∃ σ1, MoR σ1 o (0, 0, 0) (fun _ _ => 0) (fun _ _ => 0) ∧ Hfr σ1 ∧ σ1.1 = o + 23 ∧ σ1.2.1 ≤ σ.2.1 + 8118 ∧ (∀ a, a < o → σ1.2.2 a = σ.2.2 a) ∧ rF (mMo_init, 0, [(0, sA (some o))], [], σ) = ((pfI σ1 (some o) 8 2 (2 : Int32)).bind fun σ182 => (gfA σ182 (some o) 8 3).bind fun v186 => (asI σ182 v186 (2 : Int32) (1 : Int32)).bind fun σ191 => fMo_init_192 (some o) σ191) := by
  have p0 : MoP σ o 0 := ⟨h, fun k k1 k2 => by omega, hn, hF⟩
  obtain ⟨s1, p1, k1, z1, f1⟩ := mo_stp 0 0 3 3 1 p0 (fun _ => rfl) rfl (by decide) rfl
  obtain ⟨s2, p2, k2, z2, f2⟩ := mo_stp 1 0 41 41 3 p1 (fun _ => rfl) rfl (by decide) rfl
  obtain ⟨s3, p3, k3, z3, f3⟩ := mo_stp 2 0 41 41 4 p2 (fun _ => rfl) rfl (by decide) rfl
  obtain ⟨s4, p4, k4, z4, f4⟩ := mo_stp 3 0 41 41 5 p3 (fun _ => rfl) rfl (by decide) rfl
  obtain ⟨s5, p5, k5, z5, f5⟩ := mo_stp 4 0 41 41 6 p4 (fun _ => rfl) rfl (by decide) rfl
  obtain ⟨s6, p6, k6, z6, f6⟩ := mo_stp 5 0 41 41 7 p5 (fun _ => rfl) rfl (by decide) rfl
  obtain ⟨s7, p7, k7, z7, f7⟩ := mo_stp 6 1 41 41 8 p6 (fun _ => rfl) rfl (by decide) rfl
  obtain ⟨s8, p8, k8, z8, f8⟩ := mo_stp 7 1 41 41 9 p7 (fun _ => rfl) rfl (by decide) rfl
  obtain ⟨s9, p9, k9, z9, f9⟩ := mo_stp 8 1 41 41 10 p8 (fun _ => rfl) rfl (by decide) rfl
  obtain ⟨s10, p10, k10, z10, f10⟩ := mo_stp 9 2 41 41 11 p9 (fun _ => rfl) rfl (by decide) rfl
  obtain ⟨s11, p11, k11, z11, f11⟩ := mo_stp 10 0 369 369 12 p10 (fun _ => rfl) rfl (by decide) rfl
  obtain ⟨s12, p12, k12, z12, f12⟩ := mo_stp 11 0 9 9 13 p11 (fun _ => rfl) rfl (by decide) rfl
  obtain ⟨s13, p13, k13, z13, f13⟩ := mo_stp 12 0 9 9 14 p12 (fun _ => rfl) rfl (by decide) rfl
  obtain ⟨s14, p14, k14, z14, f14⟩ := mo_stp 13 0 9 9 15 p13 (fun _ => rfl) rfl (by decide) rfl
  obtain ⟨s15, p15, k15, z15, f15⟩ := mo_stp 14 2 9 9 16 p14 (fun _ => rfl) rfl (by decide) rfl
  obtain ⟨s16, p16, k16, z16, f16⟩ := mo_stp 15 0 41 41 17 p15 (fun _ => rfl) rfl (by decide) rfl
  obtain ⟨s17, p17, k17, z17, f17⟩ := mo_stp 16 0 123 123 18 p16 (fun _ => rfl) rfl (by decide) rfl
  obtain ⟨s18, p18, k18, z18, f18⟩ := mo_stp 17 0 24 24 20 p17 (fun _ => rfl) rfl (by decide) rfl
  obtain ⟨s19, p19, k19, z19, f19⟩ := mo_stp 18 0 24 24 21 p18 (fun _ => rfl) rfl (by decide) rfl
  obtain ⟨s20, p20, k20, z20, f20⟩ := mo_stp 19 0 24 24 22 p19 (fun _ => rfl) rfl (by decide) rfl
  obtain ⟨s21, p21, k21, z21, f21⟩ := mo_stp 20 0 24 24 23 p20 (fun _ => rfl) rfl (by decide) rfl
  obtain ⟨s22, p22, k22, z22, f22⟩ := mo_stp 21 2 24 24 24 p21 (fun _ => rfl) rfl (by decide) rfl
  refine ⟨s22, ⟨p22.1, p22.2.1⟩, p22.2.2.2, p22.2.2.1, by omega, fun a ha => (f22 a ha).trans ((f21 a ha).trans ((f20 a ha).trans ((f19 a ha).trans ((f18 a ha).trans ((f17 a ha).trans ((f16 a ha).trans ((f15 a ha).trans ((f14 a ha).trans ((f13 a ha).trans ((f12 a ha).trans ((f11 a ha).trans ((f10 a ha).trans ((f9 a ha).trans ((f8 a ha).trans ((f7 a ha).trans ((f6 a ha).trans ((f5 a ha).trans ((f4 a ha).trans ((f3 a ha).trans ((f2 a ha).trans ((f1 a ha)))))))))))))))))))))), ?_⟩
  refine (eMo_init _ σ).trans ?_
  refine (k1 _).trans ?_
  refine (k2 _).trans ?_
  refine (k3 _).trans ?_
  refine (k4 _).trans ?_
  refine (k5 _).trans ?_
  refine (k6 _).trans ?_
  refine (eMo_init_51 _ s6).trans ?_
  refine (k7 _).trans ?_
  refine (k8 _).trans ?_
  refine (k9 _).trans ?_
  refine (k10 _).trans ?_
  refine (k11 _).trans ?_
  refine (k12 _).trans ?_
  refine (eMo_init_100 _ s12).trans ?_
  refine (k13 _).trans ?_
  refine (k14 _).trans ?_
  refine (k15 _).trans ?_
  refine (k16 _).trans ?_
  refine (k17 _).trans ?_
  refine (k18 _).trans ?_
  refine (eMo_init_148 _ s18).trans ?_
  refine (k19 _).trans ?_
  refine (k20 _).trans ?_
  refine (k21 _).trans ?_
  refine (k22 _).trans ?_
  rfl
