/-! Calls that change little: tick, offset, flying, message, status, after, event, linked, ends. -/
theorem rng (c : Nat) (hc : c ≤ 40) (x : Int32) : (∃ k, k < c ∧ x = nI k) ∨ (x < 0 ∨ nI c ≤ x) := by
  by_cases h1 : x < 0
  · exact Or.inr (Or.inl h1)
  · by_cases h2 : nI c ≤ x
    · exact Or.inr (Or.inr h2)
    · exact Or.inl (in_c hc h1 h2)
theorem nIn0 {k : Nat} (h : k ≤ 40) : ¬ nI k < 0 := fun z => by
  have := (nI_ltI (a := k) (b := 0) (by omega) (by decide)).mp z
  omega
theorem nIng {k c : Nat} (hc : c ≤ 40) (h : k < c) : ¬ nI c ≤ nI k := fun z => by
  have := (nI_leI (a := c) (b := k) (by omega) (by omega)).mp z
  omega
theorem Rm_isServer (x : Int32) (σ : Hp) : cI rF nRm_isServer [sI x] σ = some (if x < 0 then 0 else if (3 : Int32) ≤ x then 0 else 1, σ) := by
  refine cI_of ((eRm_isServer _ σ).trans ?_)
  simp only [eRm_isServer_13, eRm_isServer_14]
  split
  · exact rz_0 σ
  · split
    · exact rz_0 σ
    · exact rz_1 σ
theorem Rm_isUser (x : Int32) (σ : Hp) : cI rF nRm_isUser [sI x] σ = some (if x < 0 then 0 else if (6 : Int32) ≤ x then 0 else 1, σ) := by
  refine cI_of ((eRm_isUser _ σ).trans ?_)
  simp only [eRm_isUser_14, eRm_isUser_15]
  split
  · exact rz_0 σ
  · split
    · exact rz_0 σ
    · exact rz_1 σ
theorem Rm_isKey (x : Int32) (σ : Hp) : cI rF nRm_isKey [sI x] σ = some (if x < 0 then 0 else if (9 : Int32) ≤ x then 0 else 1, σ) := by
  refine cI_of ((eRm_isKey _ σ).trans ?_)
  simp only [eRm_isKey_14, eRm_isKey_15]
  split
  · exact rz_0 σ
  · split
    · exact rz_0 σ
    · exact rz_1 σ
theorem sv_in {k : Nat} (h : k < 3) (σ : Hp) : cI rF nRm_isServer [sI (nI k)] σ = some (1, σ) := by
  have n2 : ¬ (3 : Int32) ≤ nI k := nIng (c := 3) (by decide) h
  rw [Rm_isServer, if_neg (nIn0 (by omega)), if_neg n2]
theorem us_in {k : Nat} (h : k < 6) (σ : Hp) : cI rF nRm_isUser [sI (nI k)] σ = some (1, σ) := by
  have n2 : ¬ (6 : Int32) ≤ nI k := nIng (c := 6) (by decide) h
  rw [Rm_isUser, if_neg (nIn0 (by omega)), if_neg n2]
theorem ke_in {k : Nat} (h : k < 9) (σ : Hp) : cI rF nRm_isKey [sI (nI k)] σ = some (1, σ) := by
  have n2 : ¬ (9 : Int32) ≤ nI k := nIng (c := 9) (by decide) h
  rw [Rm_isKey, if_neg (nIn0 (by omega)), if_neg n2]
theorem ift {x a b : Int32} (h : x < 0 ∨ a ≤ x) : (if x < 0 then (0 : Int32) else if a ≤ x then 0 else 1) = 0 := by
  rcases h with z | z
  · rw [if_pos z]
  · rw [if_pos z]
    split <;> rfl
theorem sv_out {x : Int32} (h : x < 0 ∨ nI 3 ≤ x) (σ : Hp) : cI rF nRm_isServer [sI x] σ = some (0, σ) := by
  rw [Rm_isServer]
  exact congrArg (fun v => some (v, σ)) (ift (b := 0) h)
theorem us_out {x : Int32} (h : x < 0 ∨ nI 6 ≤ x) (σ : Hp) : cI rF nRm_isUser [sI x] σ = some (0, σ) := by
  rw [Rm_isUser]
  exact congrArg (fun v => some (v, σ)) (ift (b := 0) h)
theorem ke_out {x : Int32} (h : x < 0 ∨ nI 9 ≤ x) (σ : Hp) : cI rF nRm_isKey [sI x] σ = some (0, σ) := by
  rw [Rm_isKey]
  exact congrArg (fun v => some (v, σ)) (ift (b := 0) h)
theorem mo3_in {k : Nat} (h : k < 3) (σ : Hp) : cI rF nMo_in [sI (nI k), sI (0 : Int32), sI (2 : Int32)] σ = some (1, σ) := Mo_inw (c := 3) (by decide) h σ
theorem mo3_out {x : Int32} (h : x < 0 ∨ nI 3 ≤ x) (σ : Hp) : cI rF nMo_in [sI x, sI (0 : Int32), sI (2 : Int32)] σ = some (0, σ) := Mo_out (c := 3) (by decide) h σ
theorem mo6_in {k : Nat} (h : k < 6) (σ : Hp) : cI rF nMo_in [sI (nI k), sI (0 : Int32), sI (5 : Int32)] σ = some (1, σ) := Mo_inw (c := 6) (by decide) h σ
theorem mo6_out {x : Int32} (h : x < 0 ∨ nI 6 ≤ x) (σ : Hp) : cI rF nMo_in [sI x, sI (0 : Int32), sI (5 : Int32)] σ = some (0, σ) := Mo_out (c := 6) (by decide) h σ
theorem mo9_in {k : Nat} (h : k < 9) (σ : Hp) : cI rF nMo_in [sI (nI k), sI (0 : Int32), sI (8 : Int32)] σ = some (1, σ) := Mo_inw (c := 9) (by decide) h σ
theorem mo9_out {x : Int32} (h : x < 0 ∨ nI 9 ≤ x) (σ : Hp) : cI rF nMo_in [sI x, sI (0 : Int32), sI (8 : Int32)] σ = some (0, σ) := Mo_out (c := 9) (by decide) h σ
theorem i10 : ¬ ((1 : Int32) = 0) := by decide
/-- an event's number, or not -/
theorem evn {N : Nat} (hN : N ≤ 40) (x : Int32) : (∃ n, 1 ≤ n ∧ n ≤ N ∧ x = nI n) ∨ (x < 1 ∨ nI N < x) := by
  by_cases h1 : x < 1
  · exact Or.inr (Or.inl h1)
  · by_cases h2 : nI N < x
    · exact Or.inr (Or.inr h2)
    · exact Or.inl (in_N hN h1 h2)
section API
variable {σ σ1 : Hp} {o b sL rm sr wi wa c N : Nat} {xs : Nat → Int32} {se ma ma' : Nat → Nat} {P : Pa} {E : Ed} {Q Q' : Nat → Sv} {M M' : Nat → Ms} {nw nw' : Int32} {c' : Nat}
theorem ClR.upd (h : ClR σ o b sL xs rm sr wi wa se ma P E N Q M c nw) (hr : RmC σ1 rm (pd P 0) (pd P 2) sr wi (pd P 10) nw') (k1 : Kg 1 σ σ1) (hs : SrR σ1 sr se Q') (hw : WiR σ1 wi wa ma' M' c') (hF : Hfr σ1) (k5 : Kg 5 σ σ1) (hl : σ.1 ≤ σ1.1) (hm : ∀ j, j < c' → Ou o (ma' j)) : ClR σ1 o b sL xs rm sr wi wa se ma' P E N Q' M' c' nw' := by
  obtain ⟨h1, ⟨ag, gA, gT, gR, ml, pl, h2, h2'⟩, h3, h4, h5, h6, h7, h8, o1, o6, o7, o8⟩ := h
  exact ⟨hr, ⟨ag, gA, gT, gR, ml, pl, h2.kg k1, h2'⟩, h3, hs, hw, hF, k5 _ _ rfl h7, by omega, o1, o6, hm, o8⟩
theorem Rl.ro {nX nY : Nat} {as : List sv} {v : Int32} (hR : Rl σ o b sL xs rm sr wi wa se) (hX : cI rF nX (sA (some rm) :: as) σ = some (v, σ)) (hY : cI rF nY (sA (some o) :: as) σ = some (v, σ)) : StpR σ o b sL xs rm sr wi wa se nX nY as := by
  obtain ⟨ma, P, E, N, Q, M, c, nw, I, L, hC, hM, r⟩ := hR
  exact ⟨v, σ, σ, hX, hY, hC.2.2.2.2.2.2.1, ⟨_, hM.1.1⟩, ⟨ma, P, E, N, Q, M, c, nw, I, L, hC, hM, r⟩, by omega, by omega⟩
theorem stp_tick (hR : Rl σ o b sL xs rm sr wi wa se) (n : Int32) : StpR σ o b sL xs rm sr wi wa se nRm_tick nMo_tick [sI n] := by
  by_cases hn : n < 0 ∨ 1000 < n
  · refine hR.ro (v := 0) (cI_of ((eRm_tick _ _ σ).trans ?_)) (Mo_tick_no hn)
    simp only [eRm_tick_11]
    rcases hn with z | z
    · rw [if_pos z]
      exact rz_0 σ
    · have n2 : ¬ n ≤ 1000 := Int32.not_le.mpr z
      rw [if_neg n2]
      split <;> exact rz_0 σ
  · have n1 : ¬ n < 0 := fun z => hn (Or.inl z)
    have n2 : ¬ 1000 < n := fun z => hn (Or.inr z)
    have p2 : n ≤ 1000 := Int32.not_lt.mp n2
    obtain ⟨ma, P, E, N, Q, M, c, nw, I, L, hC, hM, hI, hS, hMs⟩ := hR
    have hC' := hC
    obtain ⟨h1, -, -, h4, h5, h6, h7, h8, ⟨o1, -⟩, -, o7, -⟩ := hC'
    let σ1 : Hp := hput σ rm (.inr (0, [sA (some (pd P 0)), sA (some (pd P 2)), sA (some sr), sA (some wi), sA (some (pd P 10)), sI (nw + n)]))
    have p1 : pfI σ (some rm) 0 5 (nw + n) = some σ1 := pf_o h1
    have kk : ∀ i, i ≠ 2 → Kg i σ σ1 := fun i hi => put_kg h1 (fun e => hi e.symm)
    have c1 : ClR σ1 o b sL xs rm sr wi wa se ma P E N Q M c (nw + n) := hC.upd (hput_same _ _ _) (kk 1 (by decide)) (h4.kg (kk 3 (by decide))) (h5.kg (kk 4 (by decide))) (h6.put (h6.lt h1)) (kk 5 (by decide)) (Nat.le_refl _) o7
    obtain ⟨m1, m2, m3, m4, m5, m6⟩ := hM
    have m1' : MoR σ1 o (nw, nI N, nI c) I L := m1.kp o1.put
    obtain ⟨σ2, e2, v2, f2⟩ := Mo_tick_ok m1' n1 n2
    refine ⟨1, σ1, σ2, cI_of ((eRm_tick _ _ σ).trans ?_), e2, c1.2.2.2.2.2.2.1, ⟨_, m1'.1⟩, ⟨ma, P, E, N, Q, M, c, nw + n, I, L, c1.fr f2, ⟨v2, m2, m3, m4, m5, m6⟩, hI, hS, hMs⟩, ?_, ?_⟩
    · rw [if_neg n1, if_pos p2]
      simp only [h1.f5, p1, Option.bind_some, rz_1]
    · rw [f2.1]
      exact Nat.le_add_right _ _
    · rw [f2.2.1]
      exact Nat.le_add_right _ _
theorem stp_flying (hR : Rl σ o b sL xs rm sr wi wa se) : StpR σ o b sL xs rm sr wi wa se nRm_flying nMo_flying [] := by
  have hR' := hR
  obtain ⟨ma, P, E, N, Q, M, c, nw, I, L, ⟨h1, -, -, -, h5, -⟩, ⟨m1, -⟩, -⟩ := hR'
  refine hR.ro (v := nI c) (cI_of ((eRm_flying _ σ).trans ?_)) (Mo_flying m1)
  simp only [h1.f3, h5.f1, Option.bind_some]
theorem stp_message (hR : Rl σ o b sL xs rm sr wi wa se) (x : Int32) : StpR σ o b sL xs rm sr wi wa se nRm_message nMo_message [sI x] := by
  have hR' := hR
  obtain ⟨ma, P, E, N, Q, M, c, nw, I, L, ⟨h1, -, -, -, h5, -⟩, ⟨m1, -, -, -, -, m6⟩, -⟩ := hR'
  have hc := h5.2.2.2.2
  rcases rng c (by omega) x with ⟨k, hk, rfl⟩ | hx
  · refine hR.ro (v := cde (M k)) (cI_of ((eRm_message _ _ σ).trans ?_)) (Mo_message m1 m6 rfl hk)
    have nn : ¬ (some (ma k) = none) := fun z => by cases z
    have r1 : rcv σ [sA (some (ma k))] 3 = some (ma k) := rcv_o (show σ.2.2 (ma k) = some (.inr (3, _)) from h5.2.2.1 k hk)
    simp only [h1.f3, h5.rc, Wi_find h5 hk, Option.bind_some, r1, Me_code (h5.2.2.1 k hk), eRm_message_21]
    rw [if_pos nn]
  · refine hR.ro (v := -1) (cI_of ((eRm_message _ _ σ).trans ?_)) (Mo_message_no m1 hc rfl hx)
    simp only [h1.f3, h5.rc, Wi_find_no h5 hx, Option.bind_some, eRm_message_21, not_true_eq_false, if_false]
theorem Mo_isE {w : Int32 × Int32 × Int32} {I : Nat → Nat → Int32} {L : Nat → Nat → Int64} (m : MoR σ o w I L) (hw : w.2.1 = nI N) (hN : N ≤ 40) {n : Nat} (h1 : 1 ≤ n) (h2 : n ≤ N) : cI rF nMo_isEvent [sA (some o), sI (nI n)] σ = some (1, σ) := by
  obtain ⟨a, b⟩ := of_N hN h1 h2
  rw [Mo_isEvent m, hw, if_neg a, if_neg b]
theorem Mo_isN {w : Int32 × Int32 × Int32} {I : Nat → Nat → Int32} {L : Nat → Nat → Int64} (m : MoR σ o w I L) (hw : w.2.1 = nI N) {x : Int32} (hx : x < 1 ∨ nI N < x) : cI rF nMo_isEvent [sA (some o), sI x] σ = some (0, σ) := by
  rw [Mo_isEvent m, hw]
  rcases hx with z | z
  · rw [if_pos z]
  · rw [if_pos z]
    split <;> rfl
theorem Hi_hasE {hi ev : Nat} {ea : Nat → Nat} (h : HiR σ hi ev ea N) (hN : N ≤ 40) {n : Nat} (h1 : 1 ≤ n) (h2 : n ≤ N) : cI rF nHi_has [sA (some hi), sI (nI n)] σ = some (1, σ) := by
  obtain ⟨a, b⟩ := of_N hN h1 h2
  rw [Hi_has h, if_neg a, if_neg b]
theorem Hi_hasN {hi ev : Nat} {ea : Nat → Nat} (h : HiR σ hi ev ea N) {x : Int32} (hx : x < 1 ∨ nI N < x) : cI rF nHi_has [sA (some hi), sI x] σ = some (0, σ) := by
  rw [Hi_has h]
  rcases hx with z | z
  · rw [if_pos z]
  · rw [if_pos z]
    split <;> rfl
theorem stp_status (hR : Rl σ o b sL xs rm sr wi wa se) (x y : Int32) : StpR σ o b sL xs rm sr wi wa se nRm_status nMo_status [sI x, sI y] := by
  have hR' := hR
  obtain ⟨ma, P, E, N, Q, M, c, nw, I, L, ⟨h1, ⟨ag, gA, gT, gR, ml, pl, hv, -⟩, ⟨hN, -⟩, h4, -⟩, ⟨m1, -, -, -, m5, -⟩, -⟩ := hR'
  rcases rng 3 (by decide) x with ⟨p, hp, rfl⟩ | hx
  · rcases evn hN y with ⟨n, n1, n2, rfl⟩ | hy
    · have g17 : alI σ (some (o + 17)) (((41 : Int32) * nI p) + nI n) = some (stn (Q p) n) := by
        rw [nI41, m1.g17 (show 41 * p + n < 123 by omega), (m5 p hp).2 n n1 (by omega)]
      have r5 : rcv σ [sA (some (se p)), sI (nI n)] 5 = some (se p) := se_rc (h4.2.1 p hp) _
      refine hR.ro (v := stn (Q p) n) (cI_of ((eRm_status _ _ _ σ).trans ?_)) (cI_of ((eMo_status _ _ _ σ).trans ?_))
      · simp only [sv_in hp, Option.bind_some, if_neg i10, h1.f0, hv.hi.rc, Hi_hasE hv.hi hN n1 n2, if_pos i10, h1.f2, h4.at hp, r5, Se_standingOf (h4.2.1 p hp) (show n < 64 by omega)]
      · simp only [mo3_in hp, Option.bind_some, if_neg i10, m1.rc, Mo_isE m1 rfl hN n1 n2, m1.f18, g17, eMo_status_32]
    · refine hR.ro (v := -1) (cI_of ((eRm_status _ _ _ σ).trans ?_)) (cI_of ((eMo_status _ _ _ σ).trans ?_))
      · simp only [sv_in hp, Option.bind_some, if_neg i10, h1.f0, hv.hi.rc, Hi_hasN hv.hi hy, eRm_status_18, not_true_eq_false, if_false]
      · simp only [mo3_in hp, Option.bind_some, if_neg i10, m1.rc, Mo_isN m1 rfl hy, if_true, eMo_status_31, eMo_status_32]
  · refine hR.ro (v := -1) (cI_of ((eRm_status _ _ _ σ).trans ?_)) (cI_of ((eMo_status _ _ _ σ).trans ?_))
    · simp only [sv_out hx, Option.bind_some, if_true, eRm_status_18]
    · simp only [mo3_out hx, Option.bind_some, if_true, eMo_status_31, eMo_status_32]
theorem stp_after (hR : Rl σ o b sL xs rm sr wi wa se) (x y : Int32) : StpR σ o b sL xs rm sr wi wa se nRm_after nMo_after [sI x, sI y] := by
  have hR' := hR
  obtain ⟨ma, P, E, N, Q, M, c, nw, I, L, ⟨h1, ⟨ag, gA, gT, gR, ml, pl, hv, -⟩, ⟨hN, -, -, hS, -⟩, h4, -⟩, ⟨m1, -, ⟨m3, -⟩, -⟩, -⟩ := hR'
  rcases evn hN x with ⟨n, n1, n2, rfl⟩ | hx
  · have nn : ¬ (some (pe P n) = none) := fun z => by cases z
    rcases rng 9 (by decide) y with ⟨k, hk, rfl⟩ | hy
    · have g11 : alI σ (some (o + 11)) (((9 : Int32) * nI n) + nI k) = some (nI (eF E n k)) := by
        rw [nI9, m1.g11 (show 9 * n + k < 369 by omega), (m3 n n2).2 k hk]
      have hle := (m3 n n2).1
      refine hR.ro (v := nI (eF E n k)) (cI_of ((eRm_after _ _ _ σ).trans ?_)) (cI_of ((eMo_after _ _ _ σ).trans ?_))
      · simp only [h1.f0, hv.hi.rc, Hi_find hv.hi hN n1 n2, Option.bind_some, if_neg nn, ke_in hk, if_pos i10, hv.s7 n1 n2, (hv.stf n1 n2).rc, St_numberAt (hv.stf n1 n2) hv.ev hle hk]
      · simp only [m1.rc, Mo_isE m1 rfl hN n1 n2, Option.bind_some, if_neg i10, mo9_in hk, m1.f12, g11, eMo_after_33]
    · refine hR.ro (v := -1) (cI_of ((eRm_after _ _ _ σ).trans ?_)) (cI_of ((eMo_after _ _ _ σ).trans ?_))
      · simp only [h1.f0, hv.hi.rc, Hi_find hv.hi hN n1 n2, Option.bind_some, if_neg nn, ke_out hy, eRm_after_20, not_true_eq_false, if_false]
      · simp only [m1.rc, Mo_isE m1 rfl hN n1 n2, Option.bind_some, if_neg i10, mo9_out hy, if_true, eMo_after_32, eMo_after_33]
  · refine hR.ro (v := -1) (cI_of ((eRm_after _ _ _ σ).trans ?_)) (cI_of ((eMo_after _ _ _ σ).trans ?_))
    · simp only [h1.f0, hv.hi.rc, Hi_find_no hv.hi hx, Option.bind_some, if_true, eRm_after_20]
    · simp only [m1.rc, Mo_isN m1 rfl hx, Option.bind_some, if_true, eMo_after_32, eMo_after_33]
theorem stp_ends (hR : Rl σ o b sL xs rm sr wi wa se) (x : Int32) : StpR σ o b sL xs rm sr wi wa se nRm_ends nMo_ends [sI x] := by
  have hR' := hR
  obtain ⟨ma, P, E, N, Q, M, c, nw, I, L, ⟨h1, ⟨ag, gA, gT, gR, ml, pl, hv, -⟩, ⟨hN, -⟩, h4, -⟩, ⟨m1, m2, -, -, m5, -⟩, -, hS, -⟩ := hR'
  rcases rng 3 (by decide) x with ⟨p, hp, rfl⟩ | hx
  · have hq : ∀ n, hb (Q p).2.1 n = true → 1 ≤ n ∧ n ≤ N := fun n hn => ((hS p hp).1.2.1 n hn).1
    have ho : ∀ i, hb ((Q p).2.1 &&& (flw E (Q p).2.1 1 N 0 ^^^ (-1))) i = true → 1 ≤ i ∧ i ≤ 40 := fun i hi => by
      rw [hb_and, Bool.and_eq_true] at hi
      have := hq i hi.1
      omega
    refine hR.ro (v := nI (cnt ((Q p).2.1 &&& (flw E (Q p).2.1 1 N 0 ^^^ (-1))) 40)) (cI_of ((eRm_ends _ _ σ).trans ?_)) (cI_of ((eMo_ends _ _ σ).trans ?_))
    · simp only [sv_in hp, Option.bind_some, if_neg i10, h1.f2, h4.at hp, h1.rc, Rm_endsOf hN h1 hv.hi hv.ev (h4.2.1 p hp), Lo_bitCount _ ho, eRm_ends_24]
    · simp only [mo3_in hp, Option.bind_some, if_pos i10, m1.rc, Mo_endsOf hN m1 m2 m5 rfl hp, eds_eq hN hq, Mo_size]
  · refine hR.ro (v := -1) (cI_of ((eRm_ends _ _ σ).trans ?_)) (cI_of ((eMo_ends _ _ σ).trans ?_))
    · simp only [sv_out hx, Option.bind_some, if_true, eRm_ends_24]
    · simp only [mo3_out hx, Option.bind_some, not_true_eq_false, if_false]
end API
