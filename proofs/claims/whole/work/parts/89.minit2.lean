/-! The beginning: the reference's constructor, its end; both stand alike. -/
theorem Mo_init {σ : Hp} {o : Nat} (hF : Hfr σ) (hn : σ.1 = o + 1) (h : σ.2.2 o = some (.inr (8, cdf 8))) : ∃ σ1 I L, cV rF nMo_init [sA (some o)] σ = some σ1 ∧ MoR σ1 o (0, nI 2, 0) I L ∧ (∀ j, I 1 j = 0 ∧ I 2 j = (if j = 2 then 1 else 0) ∧ I 3 j = 0 ∧ I 4 j = 0 ∧ I 5 j = 0 ∧ I 6 j = 0 ∧ I 10 j = (if j = 2 then 1 else if j = 1 then 1 else 0) ∧ I 11 j = (if j = 21 then 2 else if j = 18 then 1 else if j = 9 then 1 else 0) ∧ I 17 j = (if j = 84 then 2 else if j = 83 then 2 else if j = 43 then 2 else if j = 42 then 2 else if j = 2 then 2 else if j = 1 then 2 else 0)) ∧ (∀ j, L 7 j = (if j = 2 then 2 else 0) ∧ L 8 j = (if j = 2 then 2 else 0) ∧ L 9 j = (if j = 2 then 2 else 0)) ∧ Hfr σ1 ∧ σ1.1 = o + 23 ∧ σ1.2.1 ≤ σ.2.1 + 8118 ∧ ∀ a, a < o → σ1.2.2 a = σ.2.2 a := by
  obtain ⟨s0, v0, F0, n0, z0, k0, e0⟩ := Mo_init_A hF hn h
  obtain ⟨v1, f1⟩ := v0.wS (0, nI 2, 0)
  have e1 : pfI s0 (some o) 8 2 (2 : Int32) = some (hput s0 o (moc o (0, nI 2, 0))) := v0.p2 2
  generalize hput s0 o (moc o (0, nI 2, 0)) = s1 at v1 f1 e1
  obtain ⟨s2, e2, v2, f2⟩ := v1.wI 2 (by decide) (by decide) (fun _ => rfl) (show 2 < mlen 2 by decide) 1
  obtain ⟨s3, e3, v3, f3⟩ := v2.wJ 7 (by decide) (by decide) (fun _ => rfl) (show 2 < mlen 7 by decide) 2
  obtain ⟨s4, e4, v4, f4⟩ := v3.wJ 8 (by decide) (by decide) (fun _ => rfl) (show 2 < mlen 8 by decide) 2
  obtain ⟨s5, e5, v5, f5⟩ := v4.wJ 9 (by decide) (by decide) (fun _ => rfl) (show 2 < mlen 9 by decide) 2
  obtain ⟨s6, e6, v6, f6⟩ := v5.wZ 10 (by decide) (by decide) (fun _ => rfl) (show 1 < mlen 10 by decide) (x := 1) (Or.inr rfl)
  obtain ⟨s7, e7, v7, f7⟩ := v6.wZ 10 (by decide) (by decide) (fun _ => rfl) (show 2 < mlen 10 by decide) (x := 1) (Or.inr rfl)
  obtain ⟨s8, e8, v8, f8⟩ := v7.wI 11 (by decide) (by decide) (fun _ => rfl) (show 9 < mlen 11 by decide) 1
  obtain ⟨s9, e9, v9, f9⟩ := v8.wI 11 (by decide) (by decide) (fun _ => rfl) (show 18 < mlen 11 by decide) 1
  obtain ⟨s10, e10, v10, f10⟩ := v9.wI 11 (by decide) (by decide) (fun _ => rfl) (show 21 < mlen 11 by decide) 2
  obtain ⟨s11, e11, v11, f11⟩ := v10.wI 17 (by decide) (by decide) (fun _ => rfl) (show 1 < mlen 17 by decide) 2
  obtain ⟨s12, e12, v12, f12⟩ := v11.wI 17 (by decide) (by decide) (fun _ => rfl) (show 2 < mlen 17 by decide) 2
  obtain ⟨s13, e13, v13, f13⟩ := v12.wI 17 (by decide) (by decide) (fun _ => rfl) (show 42 < mlen 17 by decide) 2
  obtain ⟨s14, e14, v14, f14⟩ := v13.wI 17 (by decide) (by decide) (fun _ => rfl) (show 43 < mlen 17 by decide) 2
  obtain ⟨s15, e15, v15, f15⟩ := v14.wI 17 (by decide) (by decide) (fun _ => rfl) (show 83 < mlen 17 by decide) 2
  obtain ⟨s16, e16, v16, f16⟩ := v15.wI 17 (by decide) (by decide) (fun _ => rfl) (show 84 < mlen 17 by decide) 2
  have ff := (((((((((((((((f1.tr f2).tr f3).tr f4).tr f5).tr f6).tr f7).tr f8).tr f9).tr f10).tr f11).tr f12).tr f13).tr f14).tr f15).tr f16)
  refine ⟨s16, _, _, cV_of (e0.trans ?_), v16, fun j => ?_, fun j => ?_, ?_, ?_, ?_, fun a ha => (ff.2.2 a (Or.inl ha)).trans (k0 a ha)⟩
  · have q2 : asI s1 (some (o + 2)) (2 : Int32) (1 : Int32) = some s2 := e2
    have q3 : asJ s2 (some (o + 7)) (2 : Int32) (2 : Int64) = some s3 := e3
    have q4 : asJ s3 (some (o + 8)) (2 : Int32) (2 : Int64) = some s4 := e4
    have q5 : asJ s4 (some (o + 9)) (2 : Int32) (2 : Int64) = some s5 := e5
    have q6 : asZ s5 (some (o + 10)) (1 : Int32) (1 : Int32) = some s6 := e6
    have q7 : asZ s6 (some (o + 10)) (2 : Int32) (1 : Int32) = some s7 := e7
    have q8 : asI s7 (some (o + 11)) (9 : Int32) (1 : Int32) = some s8 := e8
    have q9 : asI s8 (some (o + 11)) (18 : Int32) (1 : Int32) = some s9 := e9
    have q10 : asI s9 (some (o + 11)) (21 : Int32) (2 : Int32) = some s10 := e10
    have i1 : ((41 : Int32) * (0 : Int32)) + (1 : Int32) = nI 1 := by decide
    have i2 : ((41 : Int32) * (0 : Int32)) + (2 : Int32) = nI 2 := by decide
    have i3 : ((41 : Int32) * ((0 : Int32) + (1 : Int32))) + (1 : Int32) = nI 42 := by decide
    have i4 : ((41 : Int32) * ((0 : Int32) + (1 : Int32))) + (2 : Int32) = nI 43 := by decide
    have i5 : ((41 : Int32) * (((0 : Int32) + (1 : Int32)) + (1 : Int32))) + (1 : Int32) = nI 83 := by decide
    have i6 : ((41 : Int32) * (((0 : Int32) + (1 : Int32)) + (1 : Int32))) + (2 : Int32) = nI 84 := by decide
    have c0 : ¬ (3 : Int32) ≤ (0 : Int32) := by decide
    have c1 : ¬ (3 : Int32) ≤ (0 : Int32) + (1 : Int32) := by decide
    have c2 : ¬ (3 : Int32) ≤ ((0 : Int32) + (1 : Int32)) + (1 : Int32) := by decide
    have c3 : (3 : Int32) ≤ (((0 : Int32) + (1 : Int32)) + (1 : Int32)) + (1 : Int32) := by decide
    have l3 : fMo_init_259 (some o) ((((0 : Int32) + (1 : Int32)) + (1 : Int32)) + (1 : Int32)) s16 = some (none, s16) := by
      rw [eMo_init_259, if_pos c3]
    have l2 : fMo_init_259 (some o) (((0 : Int32) + (1 : Int32)) + (1 : Int32)) s14 = some (none, s16) := by
      rw [eMo_init_259, if_neg c2, i5, i6]
      simp only [v14.f18, e15, v15.f18, e16, Option.bind_some]
      exact l3
    have l1 : fMo_init_259 (some o) ((0 : Int32) + (1 : Int32)) s12 = some (none, s16) := by
      rw [eMo_init_259, if_neg c1, i3, i4]
      simp only [v12.f18, e13, v13.f18, e14, Option.bind_some]
      exact l2
    have l0 : fMo_init_259 (some o) (0 : Int32) s10 = some (none, s16) := by
      rw [eMo_init_259, if_neg c0, i1, i2]
      simp only [v10.f18, e11, v11.f18, e12, Option.bind_some]
      exact l1
    simp only [e1, v1.f3, q2, eMo_init_192, v2.f8, q3, v3.f9, q4, v4.f10, q5, v5.f11, q6, v6.f11, q7, eMo_init_233, v7.f12, q8, v8.f12, q9, v9.f12, q10, Option.bind_some]
    exact l0
  · exact ⟨rfl, rfl, rfl, rfl, rfl, rfl, rfl, rfl, rfl⟩
  · exact ⟨rfl, rfl, rfl⟩
  · intro a ha
    rw [ff.1] at ha
    rw [ff.2.2 a (Or.inr (by omega))]
    exact F0 a ha
  · rw [ff.1]
    exact n0
  · rw [ff.2.1]
    exact z0
/-! the first events -/
theorem b12 (i : Nat) : hb (bitN 1 ||| bitN 2) i = true ↔ i = 1 ∨ i = 2 := by
  rw [hb_or, hb_bit (by decide), hb_bit (by decide), Bool.or_eq_true, decide_eq_true_eq, decide_eq_true_eq]
theorem q2_tk : Tk E1 g1 (nmd 0 1 0) q2 := tkA_tk g1_le (by decide) (by decide) (by decide) (by decide) (by decide)
theorem q2_1 : q2.1 = bitN 1 := by
  refine hb_ext (fun i _ => ?_)
  rw [Bool.eq_iff_iff, q2_tk.1, hb_bit (by decide), decide_eq_true_eq]
  constructor
  · rintro ⟨j, j9, -, jz, je⟩
    rw [g1_at] at jz je
    by_cases c : j = 0
    · rw [if_pos c] at je
      exact je.symm
    · rw [if_neg c] at jz
      exact absurd rfl jz
  · intro e
    refine ⟨0, by decide, rfl, ?_, ?_⟩
    · rw [g1_at, if_pos rfl]
      decide
    · rw [g1_at, if_pos rfl, e]
theorem E1_c : eC E1 1 = 0 := rfl
theorem q2_2 : q2.2.1 = bitN 1 := by
  refine hb_ext (fun i _ => ?_)
  rw [Bool.eq_iff_iff, q2_tk.2.1, hb_bit (by decide), decide_eq_true_eq]
  constructor
  · rintro ⟨j, j9, -, jz, je⟩
    rw [g1_at] at jz je
    by_cases c : j = 0
    · rw [if_pos c] at je
      rcases je with je | je
      · exact je.symm
      · rw [E1_c, hb_0] at je
        cases je
    · rw [if_neg c] at jz
      exact absurd rfl jz
  · intro e
    refine ⟨0, by decide, rfl, ?_, Or.inl ?_⟩
    · rw [g1_at, if_pos rfl]
      decide
    · rw [g1_at, if_pos rfl, e]
theorem q2_3 (j : Nat) (hj : j < 9) : q2.2.2 j = if j = 0 then 1 else 0 := by
  rw [q2_tk.2.2 j hj, g1_at]
  by_cases c : j = 0
  · subst c
    rfl
  · rw [if_neg c]
    split <;> rfl
theorem f2_at (j : Nat) : fFn 1 0 2 1 g1 j = if j = 3 then 2 else if j = 0 then 1 else 0 := by
  unfold fFn kyk
  rw [if_neg (by decide), if_neg (by decide), if_neg (by decide), if_neg (by decide), if_neg (by decide)]
  by_cases c : j = 3
  · rw [c, va_up_self]
    rfl
  · rw [va_up_ne _ _ (show j ≠ 3 + 0 from c), if_neg c, g1_at]
theorem E2_inv : InV E2 2 := by
  have k1 : eK E2 1 = 0 := rfl
  have k2 : eK E2 2 = 1 := rfl
  have t1 : eT E2 1 = 0 := rfl
  have t2 : eT E2 2 = 0 := rfl
  have y1 : kyN E2 1 = 0 := rfl
  have y2 : kyN E2 2 = 3 := rfl
  have p1 : eP E2 1 = 0 := rfl
  have p2 : eP E2 2 = bitN 1 := rfl
  have u1 : eU E2 1 = 0 := rfl
  have u2 : eU E2 2 = bitN 1 := (show eU E2 2 = q2.1 from rfl).trans q2_1
  have c1 : eC E2 1 = 0 := rfl
  have c2 : eC E2 2 = bitN 1 := (show eC E2 2 = q2.2.1 from rfl).trans q2_2
  have f1 : eF E2 1 = g1 := rfl
  have f2 : eF E2 2 = fFn 1 0 2 1 g1 := rfl
  have a1 : ∀ k, eA E2 1 k = 0 := fun _ => rfl
  have a2 : eA E2 2 = q2.2.2 := rfl
  have b1 : ∀ i, hb (bitN 1) i = true → i = 1 := fun i hi => by
    rw [hb_bit (by decide)] at hi
    exact of_decide_eq_true hi
  have z0 : ∀ i, hb 0 i = true → False := fun i hi => by
    rw [hb_0] at hi
    cases hi
  have b11 : hb (bitN 1) 1 = true := by
    rw [hb_bit (by decide)]
    rfl
  refine ⟨⟨by decide, by decide⟩, fun k _ => rfl, ⟨k1, rfl, (show eG E2 1 ≠ 0 by decide), by rw [p2]; exact b11⟩, fun n h1 h2 => ?_⟩
  rcases (show n = 1 ∨ n = 2 by omega) with rfl | rfl
  · unfold EvI
    rw [k1, t1, p1, u1, c1, f1]
    refine ⟨fun h => by omega, by decide, (show eS E2 1 < 6 by decide), by decide, (show eG E2 1 = 0 ∨ eG E2 1 = 1 by decide), fun i hi => (z0 i hi).elim, fun k hk => ?_, by rw [g1_at, if_pos rfl], fun i hi => (z0 i hi).elim, fun k hk hz => absurd (a1 k) hz, fun h => by omega, fun i hi => (z0 i hi).elim, fun h => by omega, fun h => by omega⟩
    rw [g1_at]
    by_cases c : k = 0
    · rw [if_pos c, y1, k1, c]
      exact ⟨Nat.le_refl _, fun _ => ⟨rfl, by decide⟩⟩
    · rw [if_neg c]
      exact ⟨by decide, fun z => absurd rfl z⟩
  · unfold EvI
    rw [k2, t2, p2, u2, c2, f2, a2]
    refine ⟨fun _ => by decide, by decide, (show eS E2 2 < 6 by decide), by decide, (show eG E2 2 = 0 ∨ eG E2 2 = 1 by decide), fun i hi => by rw [b1 i hi]; decide, fun k hk => ?_, by rw [f2_at]; rfl, fun i hi => ?_, fun k hk hz => ?_, fun _ => by rw [q2_3 0 (by decide)]; rfl, fun i hi => by rw [b1 i hi, k1]; decide, fun _ => b11, fun _ _ => ⟨3, by decide, by rw [f2_at]; decide⟩⟩
    · rw [f2_at]
      by_cases c : k = 3
      · rw [if_pos c, y2, k2, c]
        exact ⟨Nat.le_refl _, fun _ => ⟨rfl, by decide⟩⟩
      · rw [if_neg c]
        by_cases c' : k = 0
        · rw [if_pos c', y1, k1, c']
          exact ⟨by decide, fun _ => ⟨rfl, by decide⟩⟩
        · rw [if_neg c']
          exact ⟨by decide, fun z => absurd rfl z⟩
    · rw [b1 i hi, y1, k1, q2_3 0 (by decide)]
      exact ⟨by decide, by decide, by decide, rfl⟩
    · rw [q2_3 k hk] at hz ⊢
      by_cases c : k = 0
      · rw [if_pos c, k1, y1, c]
        exact ⟨by decide, by decide, b11, rfl⟩
      · rw [if_neg c] at hz
        exact absurd rfl hz
theorem Q0_inv : SvI E2 2 (Q0 0) := by
  refine ⟨⟨fun n hn => ?_, fun n hn => ?_, fun n hn => ?_⟩, (b12 1).mpr (Or.inl rfl), (b12 2).mpr (Or.inr rfl)⟩
  · rw [show (Q0 0).1 = 0 from rfl, hb_0] at hn
    cases hn
  · rcases (b12 n).mp hn with rfl | rfl
    · exact ⟨⟨by decide, by decide⟩, (show eG E2 1 ≠ 0 by decide)⟩
    · exact ⟨⟨by decide, by decide⟩, (show eG E2 2 ≠ 0 by decide)⟩
  · rw [show (Q0 0).2.2.1 = 0 from rfl, hb_0] at hn
    cases hn
