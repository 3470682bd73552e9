/-! The reference's finish. -/
section FIN
variable {o N : Nat} {w : Int32 × Int32 × Int32} {L : Nat → Nat → Int64} {E : Ed} {Q : Nat → Sv} {nw : Int32}
theorem Mo_fin_57 {e : Nat} (he : e < 41) : ∀ (d i : Nat) (σ : Hp) (I : Nat → Nat → Int32), i + d = 9 → MoR σ o w I L → ∃ σ1 I1, fMo_finish_57 (some o) (nI e) (nI i) σ = fMo_finish_57 (some o) (nI e) (nI 9) σ1 ∧ MoR σ1 o w I1 L ∧ (∀ k, k ≠ 11 → I1 k = I k) ∧ (∀ j, j < 9 → I1 11 (9 * e + j) = if i ≤ j then I 12 j else I 11 (9 * e + j)) ∧ (∀ m, m < 9 * e → I1 11 m = I 11 m) ∧ FrM o σ σ1 := by
  intro d
  induction d with
  | zero =>
    intro i σ I hi h
    have : i = 9 := by omega
    subst this
    refine ⟨σ, I, rfl, h, fun _ _ => rfl, fun j hj => ?_, fun _ _ => rfl, FrM.rf _ _⟩
    rw [if_neg (by omega)]
  | succ d ih =>
    intro i σ I hi h
    have hi9 : i < 9 := by omega
    obtain ⟨σ1, e1, v1, f1⟩ := h.wI 11 (by decide) (by decide) (fun _ => rfl) (show 9 * e + i < mlen 11 from (show 9 * e + i < 369 by omega)) (I 12 i)
    obtain ⟨σ2, I2, e2, v2, i2, j2, m2, f2⟩ := ih (i + 1) σ1 _ (by omega) v1
    refine ⟨σ2, I2, ?_, v2, fun k hk => ?_, fun j hj => ?_, fun m hm => ?_, f1.tr f2⟩
    · rw [eMo_finish_57, if_neg (i9 hi9)]
      simp only [h.f12, h.f13, h.g12 hi9, nI9, e1, Option.bind_some, nI1]
      exact e2
    · rw [i2 k hk, va_up_ne _ _ hk]
    · rw [j2 j hj, va_up_self, va_up_ne _ _ (show 12 ≠ 11 by decide)]
      by_cases c : i + 1 ≤ j
      · rw [if_pos c, if_pos (by omega)]
      · rw [if_neg c]
        by_cases c2 : j = i
        · subst c2
          rw [va_up_self, if_pos (Nat.le_refl _)]
        · rw [va_up_ne _ _ (by omega), if_neg (by omega)]
    · rw [m2 m hm, va_up_self, va_up_ne _ _ (by omega)]
theorem Mo_fin_135 {e p : Nat} (hp : p < 3) : ∀ (d i : Nat) (σ : Hp) (I : Nat → Nat → Int32) (q : Mq), i + d = 3 → MoA σ o E N Q q.1 q.2 nw I L → ∃ σ1 I1, fMo_finish_135 (some o) (nI e) (nI p) (nI i) σ = some (some (sI (nI e)), σ1) ∧ MoA σ1 o E N Q (pbl p e i d q).1 (pbl p e i d q).2 nw I1 L ∧ FrM o σ σ1 := by
  intro d
  induction d with
  | zero =>
    intro i σ I q hi h
    have : i = 3 := by omega
    subst this
    refine ⟨σ, I, ?_, h, FrM.rf _ _⟩
    rw [eMo_finish_135, if_pos (show (3 : Int32) ≤ nI 3 by decide)]
  | succ d ih =>
    intro i σ I q hi h
    have n3 : ¬ (3 : Int32) ≤ nI i := nIng (c := 3) (by decide) (by omega)
    have hu : pbl p e i (d + 1) q = pbl p e (i + 1) d (if i = p then q else sd1 q (1, nI e, nI p, nI i, 0)) := rfl
    rw [eMo_finish_135, if_neg n3, eMo_finish_156, nI1]
    by_cases cp : i = p
    · rw [if_pos (congrArg nI cp), hu, if_pos cp]
      exact ih (i + 1) σ I q (by omega) h
    · have nip : ¬ nI i = nI p := fun z => cp ((nI_eq (by omega) (by omega)).mp z)
      rw [if_neg nip, hu, if_neg cp]
      obtain ⟨σ1, I1, e1, c1, f1⟩ := h.send 1 (nI e) (nI p) (nI i)
      obtain ⟨σ2, I2, e2, c2, f2⟩ := ih (i + 1) σ1 I1 _ (by omega) c1
      refine ⟨σ2, I2, ?_, c2, f1.tr f2⟩
      simp only [h.1.rc, e1, Option.bind_some, eMo_finish_156, nI1]
      exact e2
/-- what the reference's rows hold once an event is prepared -/
def Prp (I : Nat → Nat → Int32) (L : Nat → Nat → Int64) (E : Ed) (N : Nat) (Q : Nat → Sv) (M : Nat → Ms) (c : Nat) (X : Ed) (g : Nat → Nat) : Prop := MoE I L X (N + 1) ∧ Mo11 I L E N ∧ (∀ n, 1 ≤ n → n ≤ N → I 10 n = eG E n) ∧ MoS I Q ∧ MoM I M c ∧ ∀ j, j < 9 → I 12 j = nI (g j)
theorem Mo_finish {σ : Hp} {I : Nat → Nat → Int32} {M : Nat → Ms} {c k u t : Nat} {v tm : Int32} {pv : Int64} {g : Nat → Nat} (hN : N < 40) (hk1 : 1 ≤ k) (hk : k ≤ 7) (hu : u < 6) (ht : t < 6) (hg : gle g N) (h0 : g 0 = 1) (hI : InV (EN E N k u t v tm pv g) (N + 1)) (h : MoR σ o (nw, nI N, nI c) I L) (hP : Prp I L E N Q M c (EN E N k u t v tm pv g) g) (hS : SvI (EN E N k u t v tm pv g) (N + 1) (Q (u % 3))) : ∃ σ1 I1, cI rF nMo_finish [sA (some o)] σ = some (nI (N + 1), σ1) ∧ MoA σ1 o (EN E N k u t v tm pv g) (N + 1) (va_up Q (u % 3) (lkE (EN E N k u t v tm pv g) (N + 1) 41 (Q (u % 3)) (N + 1))) (pbl (u % 3) (N + 1) 0 3 (M, c)).1 (pbl (u % 3) (N + 1) 0 3 (M, c)).2 nw I1 L ∧ SvI (EN E N k u t v tm pv g) (N + 1) (lkE (EN E N k u t v tm pv g) (N + 1) 41 (Q (u % 3)) (N + 1)) ∧ FrM o σ σ1 := by
  obtain ⟨m2, ⟨m3, m3'⟩, m4, m5, m6, m12⟩ := hP
  have hp : u % 3 < 3 := Nat.mod_lt _ (by decide)
  have hsam : Sam E (EN E N k u t v tm pv g) N := Ex_sam
  have eK1 : eK (EN E N k u t v tm pv g) (N + 1) = k := va_up_self _ _ _
  have eS1 : eS (EN E N k u t v tm pv g) (N + 1) = u := va_up_self _ _ _
  have eT1 : eT (EN E N k u t v tm pv g) (N + 1) = t := va_up_self _ _ _
  have eG1 : eG (EN E N k u t v tm pv g) (N + 1) = gN E N k u t v pv g := va_up_self _ _ _
  have eF1 : eF (EN E N k u t v tm pv g) (N + 1) = fFn k t (N + 1) (gN E N k u t v pv g) g := va_up_self _ _ _
  have eA1 : eA (EN E N k u t v tm pv g) (N + 1) = (tkA E g u k t).2.2 := va_up_self _ _ _
  have ky1 : kyN (EN E N k u t v tm pv g) (N + 1) = kyk k t := (kyN_Ex _ _ _ _ _ _ _ _ _ _ _ _ _).2
  have alN : ∀ g', alw (EN E N k u t v tm pv g) g' (N + 1) = alw (X0 E N k u t v pv) g' (N + 1) := fun g' => alw_ex _ _ _ _ _ _ _ _ _ _ _ _ _ _ _ _ _ _ _ _ _
  have hA0 : eA (EN E N k u t v tm pv g) (N + 1) 0 = 1 := (hI.2.2.2 (N + 1) (by omega) (Nat.le_refl _)).2.2.2.2.2.2.2.2.2.2.1 (by have := hI.1.1; omega)
  have s1E : eS (EN E N k u t v tm pv g) 1 = 0 := hI.2.2.1.2.1
  generalize EN E N k u t v tm pv g = X at *
  have e41 : N + 1 < 41 := by omega
  -- made, gather
  obtain ⟨va, fa⟩ := h.wS (nw, nI (N + 1), nI c)
  have pa : pfI σ (some o) 8 2 (nI (N + 1)) = some (hput σ o (moc o (nw, nI (N + 1), nI c))) := h.p2 _
  generalize hput σ o (moc o (nw, nI (N + 1), nI c)) = σa at va fa pa
  obtain ⟨σb, fb', eb, vb, gb, fb⟩ := Mo_gather (show N + 1 ≤ 40 by omega) e41 (hI.aui (show 1 ≤ N + 1 by omega) (Nat.le_refl _)) (hI.agle (show 1 ≤ N + 1 by omega) (Nat.le_refl _)).1 va m2 (m2 (N + 1) (by omega) (Nat.le_refl _)).2.2.2.2.2.2.1
  have mb : MoE (va_up I 14 fb') L X (N + 1) := m2.up (by decide)
  have hY14 : ∀ j, j < 9 → alI σb (some (o + 14)) (nI j) = some (nI (eA X (N + 1) j)) := fun j hj => (vb.g14 hj).trans (by rw [va_up_self, gb j hj])
  have hY12 : ∀ j, j < 9 → alI σb (some (o + 12)) (nI j) = some (nI (g j)) := fun j hj => (vb.g12 hj).trans (by rw [va_up_ne _ _ (show 12 ≠ 14 by decide), m12 j hj])
  have al14 := Mo_allowed vb mb (show N + 1 ≤ 40 by omega) (show 1 ≤ N + 1 by omega) (Nat.le_refl _) hY14 (hI.agle (show 1 ≤ N + 1 by omega) (Nat.le_refl _)).1 (Or.inr hA0) s1E (by rw [eK1]; exact hk1) (by rw [eK1]; exact hk) (by rw [eS1]; exact hu) (by rw [eT1]; exact ht)
  have al12 := Mo_allowed vb mb (show N + 1 ≤ 40 by omega) (show 1 ≤ N + 1 by omega) (Nat.le_refl _) hY12 (fun j hj => by have := hg j hj; omega) (Or.inr h0) s1E (by rw [eK1]; exact hk1) (by rw [eK1]; exact hk) (by rw [eS1]; exact hu) (by rw [eT1]; exact ht)
  rw [eA1, alN] at al14
  rw [alN] at al12
  -- good
  obtain ⟨σc, ec, vc, fc⟩ := vb.wZ 10 (by decide) (by decide) (fun _ => rfl) (show N + 1 < mlen 10 from e41) (gN_01 E N k u t v pv g)
  -- the state behind it
  obtain ⟨σd, Id, ed, vd, id', jd, md, fd⟩ := Mo_fin_57 (o := o) (L := L) e41 9 0 σc _ (by decide) vc
  have dd : ∀ q, q ≠ 11 → q ≠ 10 → q ≠ 14 → Id q = I q := fun q h1 h2 h3 => by
    rw [id' q h1, va_up_ne _ _ h2, va_up_ne _ _ h3]
  have d10 : ∀ n, Id 10 n = if n = N + 1 then gN E N k u t v pv g else I 10 n := fun n => by
    rw [id' 10 (by decide), va_up_self, va_up_ne _ _ (show 10 ≠ 14 by decide)]
    by_cases cn : n = N + 1
    · rw [if_pos cn, cn, va_up_self]
    · rw [if_neg cn, va_up_ne _ _ cn]
  have d11 : ∀ j, j < 9 → Id 11 (9 * (N + 1) + j) = nI (g j) := fun j hj => by
    rw [jd j hj, if_pos (Nat.zero_le _), va_up_ne _ _ (show 12 ≠ 10 by decide), va_up_ne _ _ (show 12 ≠ 14 by decide), m12 j hj]
  have d11' : ∀ m, m < 9 * (N + 1) → Id 11 m = I 11 m := fun m hm => by
    rw [md m hm, va_up_ne _ _ (show 11 ≠ 10 by decide), va_up_ne _ _ (show 11 ≠ 14 by decide)]
  have mdE : MoE Id L X (N + 1) := m2.of2 (fun q _ q6 => dd q (by omega) (by omega) (by omega))
  have kyd := Mo_key vd mdE (show 1 ≤ N + 1 by omega) (Nat.le_refl _) (show N + 1 ≤ 40 by omega) (by rw [eK1]; exact hk)
  have gd10 : alZ σd (some (o + 10)) (nI (N + 1)) = some (gN E N k u t v pv g) := (vd.g10 e41).trans (by rw [d10, if_pos rfl])
  -- the key
  have st : ∃ σe Ie, (if gN E N k u t v pv g = 0 then fMo_finish_117 (some o) (nI (N + 1)) σd else if kyI X (N + 1) < 0 then fMo_finish_117 (some o) (nI (N + 1)) σd else (asI σd (some (o + 11)) (((9 : Int32) * nI (N + 1)) + kyI X (N + 1)) (nI (N + 1))).bind fun σ116 => fMo_finish_117 (some o) (nI (N + 1)) σ116) = fMo_finish_117 (some o) (nI (N + 1)) σe ∧ MoR σe o (nw, nI (N + 1), nI c) Ie L ∧ (∀ q, q ≠ 11 → Ie q = Id q) ∧ (∀ j, j < 9 → Ie 11 (9 * (N + 1) + j) = nI (eF X (N + 1) j)) ∧ (∀ m, m < 9 * (N + 1) → Ie 11 m = Id 11 m) ∧ FrM o σd σe := by
    by_cases c0 : gN E N k u t v pv g = 0
    · rw [if_pos c0]
      refine ⟨σd, Id, rfl, vd, fun _ _ => rfl, fun j hj => ?_, fun _ _ => rfl, FrM.rf _ _⟩
      rw [d11 j hj, eF1]
      unfold fFn
      rw [if_pos c0]
    · rw [if_neg c0]
      by_cases c7 : k = 7
      · have kI : kyI X (N + 1) = -1 := by
          unfold kyI
          rw [eK1, c7]
          rfl
        rw [kI, if_pos (show (-1 : Int32) < 0 by decide)]
        refine ⟨σd, Id, rfl, vd, fun _ _ => rfl, fun j hj => ?_, fun _ _ => rfl, FrM.rf _ _⟩
        rw [d11 j hj, eF1]
        unfold fFn
        rw [if_neg c0, if_pos c7]
      · have k9 := kyk_lt (k := k) ht
        have kI : kyI X (N + 1) = nI (kyk k t) := by
          rw [kyI_N (by rw [eK1]; exact c7), ky1]
        rw [kI, if_neg (nIn0 (show kyk k t ≤ 40 by omega)), nI9]
        obtain ⟨σe, ee, ve, fe⟩ := vd.wI 11 (by decide) (by decide) (fun _ => rfl) (show 9 * (N + 1) + kyk k t < mlen 11 from (show 9 * (N + 1) + kyk k t < 369 by omega)) (nI (N + 1))
        refine ⟨σe, _, ?_, ve, fun q hq => va_up_ne _ _ hq, fun j hj => ?_, fun m hm => ?_, fe⟩
        · rw [ee]
          rfl
        · rw [va_up_self, eF1]
          unfold fFn
          rw [if_neg c0, if_neg c7]
          by_cases cj : j = kyk k t
          · rw [cj, va_up_self, va_up_self]
          · rw [va_up_ne _ _ (by omega), va_up_ne _ _ cj]
            exact d11 j hj
        · rw [va_up_self, va_up_ne _ _ (by omega)]
  obtain ⟨σe, Ie, ee, ve, ie, je, me, fe⟩ := st
  -- all rows together
  have ii : ∀ q, q ≠ 11 → q ≠ 10 → q ≠ 14 → Ie q = I q := fun q h1 h2 h3 => (ie q h1).trans (dd q h1 h2 h3)
  have A1 : MoA σe o X (N + 1) Q M c nw Ie L := by
    refine ⟨ve, m2.of2 (fun q _ q6 => ii q (by omega) (by omega) (by omega)), ⟨fun n hn => ?_, m3'⟩, fun n n1 n2 => ?_, fun r hr => ?_, ⟨m6.1, fun j hj => ?_⟩⟩
    · by_cases cn : n = N + 1
      · subst cn
        exact ⟨(hI.kok (show 1 ≤ N + 1 by omega) (Nat.le_refl _)).1.gle, je⟩
      · have hn' : n ≤ N := by omega
        obtain ⟨g1, g2⟩ := m3 n hn'
        obtain ⟨-, -, s1, -⟩ := hsam n hn'
        rw [s1]
        refine ⟨fun j hj => by have := g1 j hj; omega, fun j hj => ?_⟩
        rw [me _ (by omega), d11' _ (by omega)]
        exact g2 j hj
    · rw [ie 10 (by decide), d10]
      by_cases cn : n = N + 1
      · rw [if_pos cn, cn, eG1]
      · rw [if_neg cn, (hsam n (by omega)).2.1.1]
        exact m4 n n1 (by omega)
    · rw [ii 1 (by decide) (by decide) (by decide), ii 17 (by decide) (by decide) (by decide)]
      exact m5 r hr
    · unfold Row
      rw [ii 18 (by decide) (by decide) (by decide), ii 19 (by decide) (by decide) (by decide), ii 20 (by decide) (by decide) (by decide), ii 21 (by decide) (by decide) (by decide), ii 22 (by decide) (by decide) (by decide)]
      exact m6.2 j hj
  obtain ⟨σf, If, ef, vf, sf, ff⟩ := A1.look (show N + 1 ≤ 40 by omega) hI.pok hp (show 1 ≤ N + 1 by omega) (Nat.le_refl _) hS
  obtain ⟨σg, Ig, eg, vg, fg⟩ := Mo_fin_135 (o := o) (N := N + 1) (e := N + 1) hp 3 0 σf If (M, c) (by decide) vf
  have i3 : alI σe (some (o + 3)) (nI (N + 1)) = some (nI u) := (ve.g3 e41).trans (by rw [(A1.2.1 (N + 1) (by omega) (Nat.le_refl _)).2.1, eS1])
  have e117 : fMo_finish_117 (some o) (nI (N + 1)) σe = some (some (sI (nI (N + 1))), σg) := by
    rw [eMo_finish_117]
    simp only [ve.f4, i3, md3 u hu, ve.rc, ef, Option.bind_some]
    exact eg
  have e57 : fMo_finish_57 (some o) (nI (N + 1)) (0 : Int32) σc = some (some (sI (nI (N + 1))), σg) := by
    refine (ed : fMo_finish_57 (some o) (nI (N + 1)) (nI 0) σc = _).trans ?_
    rw [eMo_finish_57, if_pos (show (9 : Int32) ≤ nI 9 by decide)]
    simp only [vd.rc, kyd, vd.f11, gd10, vd.f12, Option.bind_some]
    exact ee.trans e117
  have fin54 : fMo_finish_54 (some o) (nI (N + 1)) (some (o + 10)) (nI (N + 1)) (gN E N k u t v pv g) σb = some (some (sI (nI (N + 1))), σg) := by
    rw [eMo_finish_54]
    simp only [ec, Option.bind_some]
    exact e57
  refine ⟨σg, Ig, cI_of ((eMo_finish _ σ).trans ?_), vg, sf, (((((fa.tr fb).tr fc).tr fd).tr fe).tr ff).tr fg⟩
  simp only [h.made, nI1, pa, va.made, va.rc, eb, vb.f11, vb.f15, vb.rc, al14, vb.f13, al12, Option.bind_some, eMo_finish_53]
  have hgN : gN E N k u t v pv g = if alw (X0 E N k u t v pv) (tkA E g u k t).2.2 (N + 1) = 0 then 0 else if alw (X0 E N k u t v pv) g (N + 1) = 0 then 0 else 1 := rfl
  by_cases c1 : alw (X0 E N k u t v pv) (tkA E g u k t).2.2 (N + 1) = 0
  · rw [if_pos c1] at hgN ⊢
    rw [hgN] at fin54
    exact fin54
  · rw [if_neg c1] at hgN ⊢
    by_cases c2 : alw (X0 E N k u t v pv) g (N + 1) = 0
    · rw [if_pos c2] at hgN ⊢
      rw [hgN] at fin54
      exact fin54
    · rw [if_neg c2] at hgN ⊢
      rw [hgN] at fin54
      exact fin54
end FIN
