/-! The class's constructor, whole. -/
theorem Rm_init_130 {rm sr y : Nat} {cr : Cl} (hcr : ∃ a b d e f, cr = .inr (0, [sA a, sA b, sA (some sr), sA d, sA e, sI f])) : ∀ (d i : Nat) (σ : Hp) (f : Nat → Option Nat), i + d = 3 → Hfr σ → σ.1 = y + i → rm < y → sr < y → rm ≠ sr → σ.2.2 rm = some cr → σ.2.2 sr = some (.inl (5, 3, .inr (.inr f))) → (∀ j, j < i → f j = some (y + j)) → (∀ j, j < i → σ.2.2 (y + j) = some (sec (0, bitN 1 ||| bitN 2, 0, 0))) → ∃ σ1 f1, fRm_init_130 (some rm) (nI i) σ = some (none, σ1) ∧ Hfr σ1 ∧ σ1.1 = y + 3 ∧ σ1.2.1 = σ.2.1 + 4 * d ∧ σ1.2.2 sr = some (.inl (5, 3, .inr (.inr f1))) ∧ (∀ j, j < 3 → f1 j = some (y + j)) ∧ (∀ j, j < 3 → σ1.2.2 (y + j) = some (sec (0, bitN 1 ||| bitN 2, 0, 0))) ∧ ∀ a, a < y → a ≠ sr → σ1.2.2 a = σ.2.2 a := by
  intro d
  induction d with
  | zero =>
    intro i σ f hi hF hn h1 h2 h3 hr hs hf hc
    have : i = 3 := by omega
    subst this
    refine ⟨σ, f, ?_, hF, hn, rfl, hs, hf, hc, fun _ _ _ => rfl⟩
    rw [eRm_init_130, if_pos (show (3 : Int32) ≤ nI 3 by decide)]
  | succ d ih =>
    intro i σ f hi hF hn h1 h2 h3 hr hs hf hc
    obtain ⟨a, b, d', e, f', rfl⟩ := hcr
    have n3 : ¬ (3 : Int32) ≤ nI i := nIng (c := 3) (by decide) (by omega)
    let sa : Hp := mkO σ 5
    have a0 : sa.2.2 σ.1 = some (sec (0, 0, 0, 0)) := hnew_same _ _ _
    let sb : Hp := hput sa σ.1 (sec (0, bitN 1 ||| bitN 2, 0, 0))
    have p1 : pfJ sa (some σ.1) 5 1 (bitN 1 ||| bitN 2) = some sb := pf_o a0
    have i1 : cV rF nSe_init [sA (some σ.1), sJ (bitN 1 ||| bitN 2)] sa = some sb := by
      refine cV_of ((eSe_init _ _ sa).trans ?_)
      simp only [p1, Option.bind_some]
    have b0 : sb.2.2 σ.1 = some (sec (0, bitN 1 ||| bitN 2, 0, 0)) := hput_same _ _ _
    have bo : ∀ z, z ≠ σ.1 → sb.2.2 z = σ.2.2 z := fun z hz => (hput_ne hz).trans (hnew_ne hz)
    have bs : sb.2.2 sr = some (.inl (5, 3, .inr (.inr f))) := (bo sr (by omega)).trans hs
    have s1 := asA_o (x := some σ.1) bs (show aec 5 = some 5 from rfl) (show i < 3 by omega) (by decide) (rok_o b0)
    let sc : Hp := hput sb sr (.inl (5, 3, .inr (.inr (va_up f i (some σ.1)))))
    have Fc : Hfr sc := (Hfr.put (show Hfr sa from hF.new) (show σ.1 < σ.1 + 1 by omega)).put (show sr < σ.1 + 1 by omega)
    have co : ∀ z, z ≠ σ.1 → z ≠ sr → sc.2.2 z = σ.2.2 z := fun z h1 h2 => (hput_ne h2).trans (bo z h1)
    obtain ⟨σ1, f1, e1, F1, m1, m2, t1, t2, t3, t4⟩ := ih (i + 1) sc (va_up f i (some σ.1)) (by omega) Fc (show σ.1 + 1 = y + (i + 1) by omega) h1 h2 h3 ((co rm (by omega) h3).trans hr) (hput_same _ _ _) (fun j hj => by
      by_cases c : j = i
      · rw [c, va_up_self, hn]
      · rw [va_up_ne _ _ c]
        exact hf j (by omega)) (fun j hj => by
      by_cases c : j = i
      · rw [c, ← hn]
        exact (hput_ne (by omega)).trans b0
      · exact (co _ (by omega) (by omega)).trans (hc j (by omega)))
    refine ⟨σ1, f1, ?_, F1, m1, ?_, t1, t2, t3, fun z hz hn' => (t4 z hz hn').trans (co z (by omega) hn')⟩
    · have g2 : gfA σ (some rm) 0 2 = some (some sr) := gfA_o hr rfl
      have bt1 : cJ rF nRm_bit [sI (1 : Int32)] (mkO σ 5) = some (bitN 1, mkO σ 5) := Rm_bit 1 _
      have bt2 : cJ rF nRm_bit [sI (2 : Int32)] (mkO σ 5) = some (bitN 2, mkO σ 5) := Rm_bit 2 _
      have r1 : ∀ l, rcv (mkO σ 5) (sA (some σ.1) :: l) 5 = some σ.1 := fun l => rcv_o a0
      rw [eRm_init_130, if_neg n3]
      simp only [g2, bt1, bt2, r1, show cV rF nSe_init [sA (some σ.1), sJ (bitN 1 ||| bitN 2)] (mkO σ 5) = some sb from i1, s1, Option.bind_some, nI1]
      exact e1
    · rw [m2]
      show σ.2.1 + 4 + 4 * d = _
      omega
def P0 (s : Nat) : Pa := (fun i => if i ≤ 1 then s + i else if i ≤ 9 then s + i else s + 3 + i, ea2 s, fun n => if n = 1 then s + 18 else s + 25, fun n => if n = 1 then s + 19 else s + 26, fun n => if n = 1 then s + 20 else s + 27, fun n => if n = 1 then s + 21 else s + 28)
def Q0 : Nat → Sv := fun _ => (0, bitN 1 ||| bitN 2, 0, 0)
/-- the room once it is made; s is the address behind the room's own -/
theorem Rm_init {σ : Hp} {rm : Nat} (hF : Hfr σ) (hr : σ.2.2 rm = some (rmx none none none none none 0)) (hn : σ.1 = rm + 1) : ∃ σ1, cV rF nRm_init [sA (some rm)] σ = some σ1 ∧ Hfr σ1 ∧ σ1.1 = rm + 33 ∧ σ1.2.1 = σ.2.1 + 297 ∧ (∀ a, a < rm → σ1.2.2 a = σ.2.2 a) ∧ RmC σ1 rm (pd (P0 (rm + 1)) 0) (pd (P0 (rm + 1)) 2) (rm + 11) (rm + 12) (pd (P0 (rm + 1)) 10) 0 ∧ RV σ1 (P0 (rm + 1)) E2 2 (fun _ => 0) (fun _ => 0) (fun _ => 0) (fun _ => 0) (fun _ => 0) (fun _ => 0) ∧ SrR σ1 (rm + 11) (fun p => rm + 30 + p) Q0 ∧ WiR σ1 (rm + 12) (rm + 13) (fun _ => 0) (fun _ => (0, 0, 0, 0, 0)) 0 := by
  have lr := hF.lt hr
  obtain ⟨s1, B1, n1, m1, F1, k1, e1⟩ := Rm_init_A hF hr
  rw [hn] at B1 n1
  obtain ⟨s2, e2, W1, W2, H2, f2, F2, n2, m2⟩ := Rm_init_B (rm := rm) F1 n1 (show rm < rm + 1 by omega) B1
  obtain ⟨cr, ⟨chi, cev⟩, ⟨c2, c3, ⟨c4, c5⟩, ⟨c6, c7⟩, c8, c9⟩, c10, ⟨c11, c12⟩, ⟨c13, c14⟩⟩ := B1
  have u2 : ∀ a d, a < rm + 1 + 15 → a ≠ rm + 1 → a ≠ rm + 1 + 1 → s1.2.2 a = some d → s2.2.2 a = some d := fun a d h1 h2 h3 hd => (f2 a h1 h2 h3).trans hd
  obtain ⟨s3, f3, e3, F3, n3, m3, t1, t2, t3, t4⟩ := Rm_init_130 (rm := rm) (sr := rm + 1 + 10) (y := rm + 1 + 29) ⟨_, _, _, _, _, rfl⟩ 3 0 s2 (fun _ => none) (by decide) F2 n2 (by omega) (by omega) (by omega) (u2 rm _ (by omega) (by omega) (by omega) cr) (u2 _ _ (by omega) (by omega) (by omega) c10) (fun j hj => absurd hj (Nat.not_lt_zero j)) (fun j hj => absurd hj (Nat.not_lt_zero j))
  have u3 : ∀ a d, a < rm + 1 + 29 → a ≠ rm + 1 + 10 → s2.2.2 a = some d → s3.2.2 a = some d := fun a d h1 h2 hd => (t4 a h1 h2).trans hd
  have v : ∀ a d, a < rm + 1 + 15 → a ≠ rm + 1 → a ≠ rm + 1 + 1 → a ≠ rm + 1 + 10 → s1.2.2 a = some d → s3.2.2 a = some d := fun a d h1 h2 h3 h4 hd => u3 a d (by omega) h4 (u2 a d h1 h2 h3 hd)
  have arz : ∀ {a : Nat}, s3.2.2 a = some arN → ArE s3 (ea2 (rm + 1)) a (fun _ => 0) := fun ha => ⟨_, ha, fun j _ => by rw [er_0]⟩
  have kA : ∀ {a : Nat} {g : Nat → Nat}, a < rm + 1 + 29 → a ≠ rm + 1 + 10 → ArE s2 (ea2 (rm + 1)) a g → ArE s3 (ea2 (rm + 1)) a g := fun h1 h2 hA => hA.mono (fun d _ hd => u3 _ d h1 h2 hd)
  have e11 : ea2 (rm + 1) 1 = rm + 1 + 15 := if_pos rfl
  have e22 : ea2 (rm + 1) 2 = rm + 1 + 22 := if_neg (by decide)
  refine ⟨s3, cV_of ((eRm_init _ σ).trans ((e1 _).trans (e2.trans e3))), F3, by omega, by omega, fun a ha => ?_, v rm _ (by omega) (by omega) (by omega) (by omega) cr, ?_, ?_, ?_⟩
  · refine (t4 a (by omega) (by omega)).trans ((f2 a (by omega) (by omega) (by omega)).trans (k1 a (by omega) (by omega)))
  · refine ⟨H2.mono (fun d _ hd => u3 _ d (show rm + 1 < rm + 1 + 29 by omega) (show rm + 1 ≠ rm + 1 + 10 by omega) hd) (fun d _ hd => u3 _ d (show rm + 1 + 1 < rm + 1 + 29 by omega) (show rm + 1 + 1 ≠ rm + 1 + 10 by omega) hd), v (rm + 1 + 2) _ (by omega) (by omega) (by omega) (by omega) c2, v (rm + 1 + 3) _ (by omega) (by omega) (by omega) (by omega) c3, v (rm + 1 + 4) _ (by omega) (by omega) (by omega) (by omega) c4, arz (v (rm + 1 + 5) _ (by omega) (by omega) (by omega) (by omega) c5), v (rm + 1 + 6) _ (by omega) (by omega) (by omega) (by omega) c6, arz (v (rm + 1 + 7) _ (by omega) (by omega) (by omega) (by omega) c7), v (rm + 1 + 8) _ (by omega) (by omega) (by omega) (by omega) c8, v (rm + 1 + 9) _ (by omega) (by omega) (by omega) (by omega) c9, v (rm + 1 + 13) _ (by omega) (by omega) (by omega) (by omega) c13, arz (v (rm + 1 + 14) _ (by omega) (by omega) (by omega) (by omega) c14), fun n h1 h2 => ?_⟩
    rcases (show n = 1 ∨ n = 2 by omega) with rfl | rfl
    · obtain ⟨w0, -, ⟨w2, A2⟩, ⟨w3, A3⟩, -⟩ := W1
      refine ⟨⟨rm + 1 + 16, ?_⟩, ⟨u3 (rm + 1 + 18) _ (by omega) (by omega) w2, kA (show rm + 1 + 19 < rm + 1 + 29 by omega) (show rm + 1 + 19 ≠ rm + 1 + 10 by omega) A2⟩, u3 (rm + 1 + 20) _ (by omega) (by omega) w3, kA (show rm + 1 + 21 < rm + 1 + 29 by omega) (show rm + 1 + 21 ≠ rm + 1 + 10 by omega) A3⟩
      show s3.2.2 (ea2 (rm + 1) 1) = _
      rw [e11]
      refine (u3 (rm + 1 + 15) _ (by omega) (by omega) w0).trans ?_
      have h1 : evc E2 1 (rm + 1 + 16) (rm + 1 + 18) (rm + 1 + 20) = evc E1 1 (rm + 1 + 16) (rm + 1 + 18) (rm + 1 + 20) := evc_sam (N := 1) Ex_sam (Nat.le_refl _) _ _ _
      have h2 := evc_Ex E0 1 0 0 0 0 0 1 0 0 0 g1 (fun _ => 0) (rm + 1 + 16) (rm + 1 + 18) (rm + 1 + 20)
      exact congrArg some (h1.trans h2).symm
    · obtain ⟨w0, -, ⟨w2, A2⟩, ⟨w3, A3⟩, -⟩ := W2
      refine ⟨⟨rm + 1 + 23, ?_⟩, ⟨u3 (rm + 1 + 25) _ (by omega) (by omega) w2, kA (show rm + 1 + 26 < rm + 1 + 29 by omega) (show rm + 1 + 26 ≠ rm + 1 + 10 by omega) A2⟩, u3 (rm + 1 + 27) _ (by omega) (by omega) w3, kA (show rm + 1 + 28 < rm + 1 + 29 by omega) (show rm + 1 + 28 ≠ rm + 1 + 10 by omega) A3⟩
      show s3.2.2 (ea2 (rm + 1) 2) = _
      rw [e22]
      refine (u3 (rm + 1 + 22) _ (by omega) (by omega) w0).trans ?_
      exact congrArg some (evc_Ex E1 2 1 0 0 0 0 1 (bitN 1) q2.1 q2.2.1 (fFn 1 0 2 1 g1) q2.2.2 (rm + 1 + 23) (rm + 1 + 25) (rm + 1 + 27)).symm
  · refine ⟨⟨f3, (show s3.2.2 (rm + 1 + 10) = _ from t1), fun p hp => (t2 p hp).trans (congrArg some (show rm + 1 + 29 + p = rm + 30 + p by omega))⟩, fun p hp => ?_, fun p q _ _ h => by
      replace h : rm + 30 + p = rm + 30 + q := h
      omega⟩
    have := t3 p hp
    rw [show rm + 1 + 29 + p = rm + 30 + p by omega] at this
    exact this
  · exact ⟨v (rm + 1 + 11) _ (by omega) (by omega) (by omega) (by omega) c11, ⟨fun _ => none, v (rm + 1 + 12) _ (by omega) (by omega) (by omega) (by omega) c12, fun j hj => absurd hj (Nat.not_lt_zero j)⟩, fun j hj => absurd hj (Nat.not_lt_zero j), fun i j hi => absurd hi (Nat.not_lt_zero i), by decide⟩
