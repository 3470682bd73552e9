/-! The law's loop. -/
theorem lt6 {L i : Nat} (hL : L ≤ 3072) (hi : i ≤ 4000) : nI L - (6 : Int32) < nI i ↔ L < i + 6 := by
  by_cases c : 6 ≤ L
  · have e : nI L - (6 : Int32) = nI (L - 6) := by
      have e1 : nI L = nI (L - 6) + (6 : Int32) := by
        have := nI_add (L - 6) 6
        rw [show L - 6 + 6 = L by omega] at this
        exact this.symm
      rw [e1, Int32.add_sub_cancel]
    rw [e, nI_ltI (by omega) (by omega)]
    omega
  · have : ∀ l, l < 6 → nI l - (6 : Int32) < 0 := by decide
    have h1 := this L (by omega)
    have h2 : (0 : Int32) ≤ nI i := Int32.not_lt.mp (fun z => by
      have := (nI_ltI (a := i) (b := 0) (by omega) (by decide)).mp z
      omega)
    exact ⟨fun _ => by omega, fun _ => Int32.lt_of_lt_of_le h1 h2⟩
section LAW
variable {o b sL rm sr wi wa : Nat} {xs : Nat → Int32} {se : Nat → Nat}
/-- one turn of the law's loop -/
theorem law_turn {σ : Hp} {i : Nat} (hL : sL ≤ 3072) (hi : i + 6 ≤ sL) (hR : Rl σ o b sL xs rm sr wi wa se) : ∃ σ2, fLa_law_18 (some b) (some rm) (some o) (nI i) σ = fLa_law_647 (some b) (some rm) (some o) (nI i) σ2 ∧ Rl σ2 o b sL xs rm sr wi wa se ∧ σ2.1 ≤ σ.1 + 64 ∧ σ2.2.1 ≤ σ.2.1 + 512 := by
  have hR' := hR
  obtain ⟨ma, P, E, N, Q, M, c, nw, I, L, hC, hM, -⟩ := hR'
  have hsc := hC.2.2.2.2.2.2.1
  have rc0 : ∀ l, rcv σ (sA (some rm) :: l) 0 = some rm := fun l => hC.1.rc l
  have al : alen σ (some b) = some (nI sL) := by
    unfold alen
    rw [ar_o hsc]
    rfl
  have n6 : ¬ nI sL - (6 : Int32) < nI i := fun z => by
    have := (lt6 hL (show i ≤ 4000 by omega)).mp z
    omega
  have rd : ∀ {s : Hp}, s.2.2 b = some (.inl (99, sL, .inl xs)) → ∀ k, k < 6 → alI s (some b) (nI (i + k)) = some (xs (i + k)) := fun hs k hk => alX_o hs (by omega) (by omega)
  have a0 : alI σ (some b) (nI i) = some (xs i) := rd hsc 0 (by decide)
  have a1 : ∀ {s : Hp}, s.2.2 b = some (.inl (99, sL, .inl xs)) → alI s (some b) (nI i + (1 : Int32)) = some (xs (i + 1)) := fun hs => (congrArg (alI _ (some b)) (nI_add i 1)).trans (rd hs 1 (by decide))
  have a2 : ∀ {s : Hp}, s.2.2 b = some (.inl (99, sL, .inl xs)) → alI s (some b) (nI i + (2 : Int32)) = some (xs (i + 2)) := fun hs => (congrArg (alI _ (some b)) (nI_add i 2)).trans (rd hs 2 (by decide))
  have a3 : ∀ {s : Hp}, s.2.2 b = some (.inl (99, sL, .inl xs)) → alI s (some b) (nI i + (3 : Int32)) = some (xs (i + 3)) := fun hs => (congrArg (alI _ (some b)) (nI_add i 3)).trans (rd hs 3 (by decide))
  have a4 : ∀ {s : Hp}, s.2.2 b = some (.inl (99, sL, .inl xs)) → alI s (some b) (nI i + (4 : Int32)) = some (xs (i + 4)) := fun hs => (congrArg (alI _ (some b)) (nI_add i 4)).trans (rd hs 4 (by decide))
  have a5 : ∀ {s : Hp}, s.2.2 b = some (.inl (99, sL, .inl xs)) → alI s (some b) (nI i + (5 : Int32)) = some (xs (i + 5)) := fun hs => (congrArg (alI _ (some b)) (nI_add i 5)).trans (rd hs 5 (by decide))
  rw [eLa_law_18]
  simp only [al, a0, Option.bind_some]
  rw [if_neg n6]
  by_cases c0 : xs i &&& (31 : Int32) = (0 : Int32)
  · rw [if_pos c0]
    obtain ⟨v, σ1, σ2, eX, eY, h1, ⟨w, hw⟩, hR2, g1, g2⟩ := stq_act hR (xs (i + 1)) (xs (i + 2)) (xs (i + 3)) (xs (i + 4))
    have rc8 : ∀ l, rcv σ1 (sA (some o) :: l) 8 = some o := fun l => rcv_o hw
    refine ⟨σ2, ?_, hR2, g1, g2⟩
    rw [eLa_law_116]
    simp only [a1 hsc, a1 h1, a2 hsc, a2 h1, a3 hsc, a3 h1, a4 hsc, a4 h1, rc0, eX, rc8, eY, Option.bind_some, if_true]
  rw [if_neg c0]
  by_cases c1 : xs i &&& (31 : Int32) = (1 : Int32)
  · rw [if_pos c1]
    obtain ⟨v, σ1, σ2, eX, eY, h1, ⟨w, hw⟩, hR2, g1, g2⟩ := stp_branch hR (xs (i + 1)) (xs (i + 2)) (xs (i + 3)) (xs (i + 4)) (xs (i + 5))
    have rc8 : ∀ l, rcv σ1 (sA (some o) :: l) 8 = some o := fun l => rcv_o hw
    refine ⟨σ2, ?_, hR2, g1, g2⟩
    rw [eLa_law_169]
    simp only [a1 hsc, a1 h1, a2 hsc, a2 h1, a3 hsc, a3 h1, a4 hsc, a4 h1, a5 hsc, a5 h1, rc0, eX, rc8, eY, Option.bind_some, if_true]
  rw [if_neg c1]
  by_cases c2 : xs i &&& (31 : Int32) = (2 : Int32)
  · rw [if_pos c2]
    obtain ⟨v, σ1, σ2, eX, eY, h1, ⟨w, hw⟩, hR2, g1, g2⟩ := stp_tick hR (xs (i + 1))
    have rc8 : ∀ l, rcv σ1 (sA (some o) :: l) 8 = some o := fun l => rcv_o hw
    refine ⟨σ2, ?_, hR2, g1, g2⟩
    rw [eLa_law_232]
    simp only [a1 hsc, a1 h1, rc0, eX, rc8, eY, Option.bind_some, if_true]
  rw [if_neg c2]
  by_cases c3 : xs i &&& (31 : Int32) = (3 : Int32)
  · rw [if_pos c3]
    obtain ⟨v, σ1, σ2, eX, eY, h1, ⟨w, hw⟩, hR2, g1, g2⟩ := stp_offset hR (xs (i + 1)) (xs (i + 2))
    have rc8 : ∀ l, rcv σ1 (sA (some o) :: l) 8 = some o := fun l => rcv_o hw
    refine ⟨σ2, ?_, hR2, g1, g2⟩
    rw [eLa_law_255]
    simp only [a1 hsc, a1 h1, a2 hsc, a2 h1, rc0, eX, rc8, eY, Option.bind_some, if_true]
  rw [if_neg c3]
  by_cases c4 : xs i &&& (31 : Int32) = (4 : Int32)
  · rw [if_pos c4]
    obtain ⟨v, σ1, σ2, eX, eY, h1, ⟨w, hw⟩, hR2, g1, g2⟩ := stp_offer hR (xs (i + 1)) (xs (i + 2))
    have rc8 : ∀ l, rcv σ1 (sA (some o) :: l) 8 = some o := fun l => rcv_o hw
    refine ⟨σ2, ?_, hR2, g1, g2⟩
    rw [eLa_law_288]
    simp only [a1 hsc, a1 h1, a2 hsc, a2 h1, rc0, eX, rc8, eY, Option.bind_some, if_true]
  rw [if_neg c4]
  by_cases c5 : xs i &&& (31 : Int32) = (5 : Int32)
  · rw [if_pos c5]
    obtain ⟨v, σ1, σ2, eX, eY, h1, ⟨w, hw⟩, hR2, g1, g2⟩ := stp_deliver hR (xs (i + 1))
    have rc8 : ∀ l, rcv σ1 (sA (some o) :: l) 8 = some o := fun l => rcv_o hw
    refine ⟨σ2, ?_, hR2, g1, g2⟩
    rw [eLa_law_321]
    simp only [a1 hsc, a1 h1, rc0, eX, rc8, eY, Option.bind_some, if_true]
  rw [if_neg c5]
  by_cases c6 : xs i &&& (31 : Int32) = (6 : Int32)
  · rw [if_pos c6]
    obtain ⟨v, σ1, σ2, eX, eY, h1, ⟨w, hw⟩, hR2, g1, g2⟩ := stp_lose hR (xs (i + 1))
    have rc8 : ∀ l, rcv σ1 (sA (some o) :: l) 8 = some o := fun l => rcv_o hw
    refine ⟨σ2, ?_, hR2, g1, g2⟩
    rw [eLa_law_344]
    simp only [a1 hsc, a1 h1, rc0, eX, rc8, eY, Option.bind_some, if_true]
  rw [if_neg c6]
  by_cases c7 : xs i &&& (31 : Int32) = (7 : Int32)
  · rw [if_pos c7]
    obtain ⟨v, σ1, σ2, eX, eY, h1, ⟨w, hw⟩, hR2, g1, g2⟩ := stp_spoil hR (xs (i + 1))
    have rc8 : ∀ l, rcv σ1 (sA (some o) :: l) 8 = some o := fun l => rcv_o hw
    refine ⟨σ2, ?_, hR2, g1, g2⟩
    rw [eLa_law_367]
    simp only [a1 hsc, a1 h1, rc0, eX, rc8, eY, Option.bind_some, if_true]
  rw [if_neg c7]
  by_cases c8 : xs i &&& (31 : Int32) = (8 : Int32)
  · rw [if_pos c8]
    obtain ⟨v, σ1, σ2, eX, eY, h1, ⟨w, hw⟩, hR2, g1, g2⟩ := stp_flying hR 
    have rc8 : ∀ l, rcv σ1 (sA (some o) :: l) 8 = some o := fun l => rcv_o hw
    refine ⟨σ2, ?_, hR2, g1, g2⟩
    rw [eLa_law_390]
    simp only [rc0, eX, rc8, eY, Option.bind_some, if_true]
  rw [if_neg c8]
  by_cases c9 : xs i &&& (31 : Int32) = (9 : Int32)
  · rw [if_pos c9]
    obtain ⟨v, σ1, σ2, eX, eY, h1, ⟨w, hw⟩, hR2, g1, g2⟩ := stp_message hR (xs (i + 1))
    have rc8 : ∀ l, rcv σ1 (sA (some o) :: l) 8 = some o := fun l => rcv_o hw
    refine ⟨σ2, ?_, hR2, g1, g2⟩
    rw [eLa_law_403]
    simp only [a1 hsc, a1 h1, rc0, eX, rc8, eY, Option.bind_some, if_true]
  rw [if_neg c9]
  by_cases c10 : xs i &&& (31 : Int32) = (10 : Int32)
  · rw [if_pos c10]
    obtain ⟨v, σ1, σ2, eX, eY, h1, ⟨w, hw⟩, hR2, g1, g2⟩ := stp_status hR (xs (i + 1)) (xs (i + 2))
    have rc8 : ∀ l, rcv σ1 (sA (some o) :: l) 8 = some o := fun l => rcv_o hw
    refine ⟨σ2, ?_, hR2, g1, g2⟩
    rw [eLa_law_426]
    simp only [a1 hsc, a1 h1, a2 hsc, a2 h1, rc0, eX, rc8, eY, Option.bind_some, if_true]
  rw [if_neg c10]
  by_cases c11 : xs i &&& (31 : Int32) = (11 : Int32)
  · rw [if_pos c11]
    obtain ⟨v, σ1, σ2, eX, eY, h1, ⟨w, hw⟩, hR2, g1, g2⟩ := stp_ends hR (xs (i + 1))
    have rc8 : ∀ l, rcv σ1 (sA (some o) :: l) 8 = some o := fun l => rcv_o hw
    refine ⟨σ2, ?_, hR2, g1, g2⟩
    rw [eLa_law_459]
    simp only [a1 hsc, a1 h1, rc0, eX, rc8, eY, Option.bind_some, if_true]
  rw [if_neg c11]
  by_cases c12 : xs i &&& (31 : Int32) = (12 : Int32)
  · rw [if_pos c12]
    obtain ⟨v, σ1, σ2, eX, eY, h1, ⟨w, hw⟩, hR2, g1, g2⟩ := stp_current hR (xs (i + 1)) (xs (i + 2))
    have rc8 : ∀ l, rcv σ1 (sA (some o) :: l) 8 = some o := fun l => rcv_o hw
    refine ⟨σ2, ?_, hR2, g1, g2⟩
    rw [eLa_law_482]
    simp only [a1 hsc, a1 h1, a2 hsc, a2 h1, rc0, eX, rc8, eY, Option.bind_some, if_true]
  rw [if_neg c12]
  by_cases c13 : xs i &&& (31 : Int32) = (13 : Int32)
  · rw [if_pos c13]
    obtain ⟨v, σ1, σ2, eX, eY, h1, ⟨w, hw⟩, hR2, g1, g2⟩ := stp_member hR (xs (i + 1)) (xs (i + 2))
    have rc8 : ∀ l, rcv σ1 (sA (some o) :: l) 8 = some o := fun l => rcv_o hw
    refine ⟨σ2, ?_, hR2, g1, g2⟩
    rw [eLa_law_515]
    simp only [a1 hsc, a1 h1, a2 hsc, a2 h1, rc0, eX, rc8, eY, Option.bind_some, if_true]
  rw [if_neg c13]
  by_cases c14 : xs i &&& (31 : Int32) = (14 : Int32)
  · rw [if_pos c14]
    obtain ⟨v, σ1, σ2, eX, eY, h1, ⟨w, hw⟩, hR2, g1, g2⟩ := stp_after hR (xs (i + 1)) (xs (i + 2))
    have rc8 : ∀ l, rcv σ1 (sA (some o) :: l) 8 = some o := fun l => rcv_o hw
    refine ⟨σ2, ?_, hR2, g1, g2⟩
    rw [eLa_law_548]
    simp only [a1 hsc, a1 h1, a2 hsc, a2 h1, rc0, eX, rc8, eY, Option.bind_some, if_true]
  rw [if_neg c14]
  by_cases c15 : xs i &&& (31 : Int32) = (15 : Int32)
  · rw [if_pos c15]
    obtain ⟨v, σ1, σ2, eX, eY, h1, ⟨w, hw⟩, hR2, g1, g2⟩ := stp_event hR (xs (i + 1)) (xs (i + 2))
    have rc8 : ∀ l, rcv σ1 (sA (some o) :: l) 8 = some o := fun l => rcv_o hw
    refine ⟨σ2, ?_, hR2, g1, g2⟩
    rw [eLa_law_581]
    simp only [a1 hsc, a1 h1, a2 hsc, a2 h1, rc0, eX, rc8, eY, Option.bind_some, if_true]
  rw [if_neg c15]
  by_cases c16 : xs i &&& (31 : Int32) = (16 : Int32)
  · rw [if_pos c16]
    obtain ⟨v, σ1, σ2, eX, eY, h1, ⟨w, hw⟩, hR2, g1, g2⟩ := stp_linked hR (xs (i + 1)) (xs (i + 2))
    have rc8 : ∀ l, rcv σ1 (sA (some o) :: l) 8 = some o := fun l => rcv_o hw
    refine ⟨σ2, ?_, hR2, g1, g2⟩
    rw [eLa_law_614]
    simp only [a1 hsc, a1 h1, a2 hsc, a2 h1, rc0, eX, rc8, eY, Option.bind_some, if_true]
  rw [if_neg c16]
  exact ⟨σ, rfl, hR, by omega, by omega⟩
theorem law_loop (hL : sL ≤ 3072) : ∀ (d i : Nat) (σ : Hp), i ≤ 3100 → sL ≤ i + 6 * d + 5 → Rl σ o b sL xs rm sr wi wa se → ∃ σ1, fLa_law_18 (some b) (some rm) (some o) (nI i) σ = some (some (sI 1), σ1) ∧ σ1.1 ≤ σ.1 + 64 * d ∧ σ1.2.1 ≤ σ.2.1 + 512 * d := by
  have fin : ∀ (i : Nat) (σ : Hp), i ≤ 3100 → sL < i + 6 → Rl σ o b sL xs rm sr wi wa se → fLa_law_18 (some b) (some rm) (some o) (nI i) σ = some (some (sI 1), σ) := by
    intro i σ hi hl hR
    obtain ⟨ma, P, E, N, Q, M, c, nw, I, L, hC, -⟩ := hR
    have hsc := hC.2.2.2.2.2.2.1
    have al : alen σ (some b) = some (nI sL) := by
      unfold alen
      rw [ar_o hsc]
      rfl
    rw [eLa_law_18]
    simp only [al, Option.bind_some]
    rw [if_pos ((lt6 hL (show i ≤ 4000 by omega)).mpr hl)]
    exact rz_1 σ
  intro d
  induction d with
  | zero =>
    intro i σ hi hl hR
    exact ⟨σ, fin i σ hi (by omega) hR, by omega, by omega⟩
  | succ d ih =>
    intro i σ hi hl hR
    by_cases c : sL < i + 6
    · exact ⟨σ, fin i σ hi c hR, by omega, by omega⟩
    · obtain ⟨σ2, e2, R2, g1, g2⟩ := law_turn hL (show i + 6 ≤ sL by omega) hR
      obtain ⟨σ3, e3, g3, g4⟩ := ih (i + 6) σ2 (by omega) (by omega) R2
      refine ⟨σ3, ?_, by omega, by omega⟩
      rw [e2, eLa_law_647, show nI i + (6 : Int32) = nI (i + 6) from nI_add i 6]
      exact e3
end LAW
/-! The beginning of the law: both objects are made, and stand alike. -/
theorem law_first {sz b sL : Nat} {xs : Nat → Int32} {σ : Hp} (hs : σ = (sz, 0, fun a => if a = b then some (.inl (99, sL, .inl xs)) else none)) (hb1 : b < sz) : ∃ σ2, rF (mLa_law, 0, [(0, sA (some b))], [], σ) = fLa_law_18 (some b) (some sz) (some (sz + 33)) (0 : Int32) σ2 ∧ Rl σ2 (sz + 33) b sL xs sz (sz + 11) (sz + 12) (sz + 13) (fun p => sz + 30 + p) ∧ σ2.1 = sz + 56 ∧ σ2.2.1 ≤ 10000 := by
  have n0 : σ.1 = sz := by rw [hs]
  have m0 : σ.2.1 = 0 := by rw [hs]
  have c0 : ∀ a, σ.2.2 a = if a = b then some (.inl (99, sL, .inl xs)) else none := fun a => by rw [hs]
  have F0 : Hfr σ := fun a ha => by
    rw [c0, if_neg (by omega)]
  have r0 : (mkO σ 0).2.2 sz = some (rmx none none none none none 0) := by
    have := hnew_same σ (cdf 0).length (.inr (0, cdf 0))
    rw [n0] at this
    exact this
  have rr0 : ∀ l, rcv (mkO σ 0) (sA (some sz) :: l) 0 = some sz := fun l => rcv_o r0
  obtain ⟨s1, e1, F1, n1, m1, k1, rc, rv, sv1, wv⟩ := Rm_init (show Hfr (mkO σ 0) from F0.new) r0 (show (mkO σ 0).1 = sz + 1 from (show σ.1 + 1 = sz + 1 by omega))
  have b1 : s1.2.2 b = some (.inl (99, sL, .inl xs)) := by
    rw [k1 b hb1]
    refine (hnew_ne (show b ≠ σ.1 by omega)).trans ?_
    rw [c0, if_pos rfl]
  have m1' : s1.2.1 = 303 := by
    rw [m1]
    show σ.2.1 + 6 + 297 = 303
    omega
  have r8 : (mkO s1 8).2.2 (sz + 33) = some (.inr (8, cdf 8)) := by
    have := hnew_same s1 (cdf 8).length (.inr (8, cdf 8))
    rw [n1] at this
    exact this
  have rr8 : ∀ l, rcv (mkO s1 8) (sA (some (sz + 33)) :: l) 8 = some (sz + 33) := fun l => rcv_o r8
  obtain ⟨s2, I, L, e2, v2, hIj, hLj, F2, n2, m2, k2⟩ := Mo_init (show Hfr (mkO s1 8) from F1.new) (show (mkO s1 8).1 = sz + 33 + 1 from (show s1.1 + 1 = sz + 33 + 1 by omega)) r8
  have old : ∀ a d, a < sz + 33 → s1.2.2 a = some d → s2.2.2 a = some d := fun a d ha hd => (k2 a ha).trans ((hnew_ne (show a ≠ s1.1 by omega)).trans hd)
  have lt1 := rv.lt F1
  rw [n1] at lt1
  have gl : ∀ n, 1 ≤ n → n ≤ 2 → gle (eA E2 n) 2 ∧ gle (eF E2 n) 2 ∧ eK E2 n ≤ 7 ∧ eS E2 n < 6 ∧ eT E2 n < 6 := fun n h1 h2 => by
    obtain ⟨-, k7, s6, t6, -⟩ := E2_inv.2.2.2 n h1 h2
    exact ⟨(E2_inv.agle h1 h2).1, (E2_inv.kok h1 h2).1.gle, k7, s6, t6⟩
  have rs : RS (P0 (sz + 1)) E2 2 := by
    have d5 : pd (P0 (sz + 1)) 5 = sz + 1 + 5 := rfl
    have d7 : pd (P0 (sz + 1)) 7 = sz + 1 + 7 := rfl
    have d8 : pd (P0 (sz + 1)) 8 = sz + 1 + 8 := rfl
    have d9 : pd (P0 (sz + 1)) 9 = sz + 1 + 9 := rfl
    have d11 : pd (P0 (sz + 1)) 11 = sz + 1 + 3 + 11 := rfl
    unfold RS
    rw [d5, d7, d8, d9, d11]
    refine ⟨by decide, ⟨by omega, by omega, by omega⟩, by omega, fun n h1 h2 => ?_, fun a b a1 a2 b1 b2 hab => ?_⟩
    · rcases (show n = 1 ∨ n = 2 by omega) with rfl | rfl
      · have q1 : psA (P0 (sz + 1)) 1 = sz + 1 + 19 := rfl
        have q3 : psF (P0 (sz + 1)) 1 = sz + 1 + 21 := rfl
        rw [q1, q3]
        exact ⟨⟨by omega, by omega, by omega⟩, ⟨by omega, by omega, by omega⟩, gl 1 h1 h2⟩
      · have q1 : psA (P0 (sz + 1)) 2 = sz + 1 + 26 := rfl
        have q3 : psF (P0 (sz + 1)) 2 = sz + 1 + 28 := rfl
        rw [q1, q3]
        exact ⟨⟨by omega, by omega, by omega⟩, ⟨by omega, by omega, by omega⟩, gl 2 h1 h2⟩
    · have z1 : pe (P0 (sz + 1)) 1 = sz + 1 + 15 := rfl
      have z2 : pe (P0 (sz + 1)) 2 = sz + 1 + 22 := rfl
      rcases (show a = 1 ∨ a = 2 by omega) with rfl | rfl <;> rcases (show b = 1 ∨ b = 2 by omega) with rfl | rfl
      · rfl
      · rw [z1, z2] at hab
        omega
      · rw [z1, z2] at hab
        omega
      · rfl
  have cl : ClR s2 (sz + 33) b sL xs sz (sz + 11) (sz + 12) (sz + 13) (fun p => sz + 30 + p) (fun _ => 0) (P0 (sz + 1)) E2 2 Q0 (fun _ => (0, 0, 0, 0, 0)) 0 0 := by
    refine ⟨old _ _ (by omega) rc, ⟨_, _, _, _, _, _, rv.mono (fun a d ha _ hd => old a d (lt1 a ha) hd), fun j _ => by decide⟩, rs, sv1.mono (fun a d ha _ hd => old a d ?_ hd), wv.mono (fun a d ha _ hd => old a d ?_ hd), F2, old _ _ (by omega) b1, by omega, ⟨Or.inl (by omega), Or.inl (by omega), Or.inl (by omega), Or.inl (by omega), Or.inl (by omega)⟩, fun p hp => Or.inl (show sz + 30 + p < sz + 33 by omega), fun j hj => absurd hj (Nat.not_lt_zero j), fun a ha => Or.inl (lt1 a ha)⟩
    · rcases ha with rfl | ⟨p, hp, rfl⟩
      · omega
      · show sz + 30 + p < sz + 33
        omega
    · rcases ha with rfl | rfl | ⟨j, hj, -⟩
      · omega
      · omega
      · exact absurd hj (Nat.not_lt_zero j)
  have mo : MoA s2 (sz + 33) E2 2 Q0 (fun _ => (0, 0, 0, 0, 0)) 0 0 I L := by
    refine ⟨v2, fun n h1 h2 => ?_, ⟨fun n hn => ⟨?_, fun k hk => ?_⟩, (hLj 0).2.2⟩, fun n h1 h2 => ?_, fun p hp => ⟨(hIj p).1, fun e e1 e2 => ?_⟩, ⟨by decide, fun j hj => absurd hj (Nat.not_lt_zero j)⟩⟩
    · obtain ⟨-, i2, i3, i4, i5, i6, -⟩ := hIj n
      obtain ⟨l7, l8, l9⟩ := hLj n
      rw [i2, i3, i4, i5, i6, l7, l8, l9]
      rcases (show n = 1 ∨ n = 2 by omega) with rfl | rfl
      · exact ⟨rfl, rfl, rfl, rfl, rfl, rfl, rfl, rfl⟩
      · have u2 : eU E2 2 = bitN 1 := (show eU E2 2 = q2.1 from rfl).trans q2_1
        have c2 : eC E2 2 = bitN 1 := (show eC E2 2 = q2.2.1 from rfl).trans q2_2
        rw [u2, c2]
        exact ⟨rfl, rfl, rfl, rfl, rfl, (show (2 : Int64) = bitN 1 by decide), (show (2 : Int64) = bitN 1 by decide), (show (2 : Int64) = bitN 1 by decide)⟩
    · rcases (show n = 0 ∨ n = 1 ∨ n = 2 by omega) with rfl | rfl | rfl
      · exact fun j _ => Nat.zero_le _
      · exact (gl 1 (by decide) (by decide)).2.1
      · exact (gl 2 (by decide) (by decide)).2.1
    · rw [(hIj (9 * n + k)).2.2.2.2.2.2.2.1]
      rcases (show n = 0 ∨ n = 1 ∨ n = 2 by omega) with rfl | rfl | rfl
      · rw [if_neg (by omega), if_neg (by omega), if_neg (by omega)]
        rfl
      · rw [show eF E2 1 k = g1 k from rfl, g1_at]
        by_cases c : k = 0
        · subst c
          rfl
        · rw [if_neg (by omega), if_neg (by omega), if_neg (by omega), if_neg c]
          rfl
      · rw [show eF E2 2 k = fFn 1 0 2 1 g1 k from rfl, f2_at]
        by_cases c3 : k = 3
        · subst c3
          rfl
        · by_cases c : k = 0
          · subst c
            rfl
          · rw [if_neg (by omega), if_neg (by omega), if_neg (by omega), if_neg c3, if_neg c]
            rfl
    · rw [(hIj n).2.2.2.2.2.2.1]
      rcases (show n = 1 ∨ n = 2 by omega) with rfl | rfl <;> rfl
    · rw [(hIj (41 * p + e)).2.2.2.2.2.2.2.2]
      have st : stn (Q0 p) e = if e = 1 ∨ e = 2 then 2 else 0 := by
        unfold stn Q0
        show (if hb (bitN 1 ||| bitN 2) e = true then (2 : Int32) else if hb 0 e = true then 3 else if hb 0 e = true then 1 else 0) = _
        by_cases c : e = 1 ∨ e = 2
        · rw [if_pos ((b12 e).mpr c), if_pos c]
        · rw [if_neg (fun z => c ((b12 e).mp z)), if_neg c, hb_0]
          rfl
      rw [st]
      by_cases c : e = 1 ∨ e = 2
      · rw [if_pos c]
        rcases c with rfl | rfl <;> rcases (show p = 0 ∨ p = 1 ∨ p = 2 by omega) with rfl | rfl | rfl <;> rfl
      · rw [if_neg c, if_neg (by omega), if_neg (by omega), if_neg (by omega), if_neg (by omega), if_neg (by omega), if_neg (by omega)]
  refine ⟨s2, ?_, ⟨_, _, E2, 2, Q0, _, 0, 0, I, L, cl, mo, E2_inv, fun p _ => Q0_inv, fun j hj => absurd hj (Nat.not_lt_zero j)⟩, by omega, ?_⟩
  · refine (eLa_law _ σ).trans ?_
    have hx : (some (Prod.fst σ) : Option Nat) = some sz := congrArg some n0
    have hy : (some (Prod.fst s1) : Option Nat) = some (sz + 33) := congrArg some n1
    rw [hx]
    simp only [rr0, e1, Option.bind_some]
    rw [hy]
    simp only [rr8, e2, Option.bind_some]
  · have : (mkO s1 8).2.1 = s1.2.1 + 25 := rfl
    omega
/-- THE LAW answers true on every script, within the room -/
theorem law_main {sz b sL : Nat} {xs : Nat → Int32} {σ : Hp} (hs : σ = (sz, 0, fun a => if a = b then some (.inl (99, sL, .inl xs)) else none)) (hb1 : b < sz) (hL : sL ≤ 3072) : ∃ σ', rF (ent nLa_law [sA (some b)] σ) = some (some (sI 1), σ') ∧ σ'.1 ≤ sz + 40000 ∧ σ'.2.1 ≤ 300000 := by
  obtain ⟨s2, e2, R2, n2, m2⟩ := law_first hs hb1
  obtain ⟨s3, e3, g3, g4⟩ := law_loop hL 512 0 s2 (by decide) (by omega) R2
  refine ⟨s3, ?_, by omega, by omega⟩
  exact (show rF (mLa_law, 0, [(0, sA (some b))], [], σ) = some (some (sI 1), s3) from e2.trans e3)
