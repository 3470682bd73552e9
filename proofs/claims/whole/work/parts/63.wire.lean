/-! Messages on their way: the class's Wire. -/
def Hfr (σ : Hp) : Prop := ∀ a, σ.1 ≤ a → σ.2.2 a = none
theorem Hfr.lt {σ : Hp} {a : Nat} {c : Cl} (h : Hfr σ) (ha : σ.2.2 a = some c) : a < σ.1 := by
  by_cases q : a < σ.1
  · exact q
  · rw [h a (by omega)] at ha
    cases ha
theorem Hfr.put {σ : Hp} {a : Nat} {c : Cl} (h : Hfr σ) (ha : a < σ.1) : Hfr (hput σ a c) := by
  intro b hb
  rw [hput_ne (show b ≠ a from (by
    have : σ.1 ≤ b := hb
    omega))]
  exact h b hb
theorem hnew_same (σ : Hp) (n : Nat) (c : Cl) : (hnew σ n c).2.2 σ.1 = some c := va_up_self _ _ _
theorem hnew_ne {σ : Hp} {n b : Nat} {c : Cl} (h : b ≠ σ.1) : (hnew σ n c).2.2 b = σ.2.2 b := va_up_ne _ _ h
theorem Hfr.new {σ : Hp} {n : Nat} {c : Cl} (h : Hfr σ) : Hfr (hnew σ n c) := by
  intro b hb
  have hb' : σ.1 + 1 ≤ b := hb
  rw [hnew_ne (by omega)]
  exact h b (by omega)
def msc (m : Ms) : Cl := .inr (3, [sI m.1, sI m.2.1, sI m.2.2.1, sI m.2.2.2.1, sI m.2.2.2.2])
def WiR (σ : Hp) (wi wa : Nat) (ma : Nat → Nat) (M : Nat → Ms) (c : Nat) : Prop := σ.2.2 wi = some (.inr (7, [sA (some wa), sI (nI c)])) ∧ (∃ f, σ.2.2 wa = some (.inl (4, 24, .inr (.inr f))) ∧ ∀ j, j < c → f j = some (ma j)) ∧ (∀ j, j < c → σ.2.2 (ma j) = some (msc (M j))) ∧ (∀ i j, i < c → j < c → ma i = ma j → i = j) ∧ c ≤ 24
def FrW (wi wa : Nat) (σ σ1 : Hp) : Prop := ∀ a, a < σ.1 → a ≠ wi → a ≠ wa → σ1.2.2 a = σ.2.2 a
theorem Me_init {σ : Hp} {x : Nat} {m : Ms} (h : σ.2.2 x = some (msc m)) (a b d e : Int32) : cV rF nMe_init [sA (some x), sI a, sI b, sI d, sI e] σ = some (hput σ x (msc (a, b, d, e, m.2.2.2.2))) := by
  refine cV_of ((eMe_init _ _ _ _ _ σ).trans ?_)
  have p1 : pfI σ (some x) 3 0 a = some (hput σ x (msc (a, m.2.1, m.2.2.1, m.2.2.2.1, m.2.2.2.2))) := pf_o h
  have p2 : pfI (hput σ x (msc (a, m.2.1, m.2.2.1, m.2.2.2.1, m.2.2.2.2))) (some x) 3 1 b = some (hput σ x (msc (a, b, m.2.2.1, m.2.2.2.1, m.2.2.2.2))) := (pf_o (hput_same _ _ _)).trans (congrArg some (hput_hput _ _ _ _))
  have p3 : pfI (hput σ x (msc (a, b, m.2.2.1, m.2.2.2.1, m.2.2.2.2))) (some x) 3 2 d = some (hput σ x (msc (a, b, d, m.2.2.2.1, m.2.2.2.2))) := (pf_o (hput_same _ _ _)).trans (congrArg some (hput_hput _ _ _ _))
  have p4 : pfI (hput σ x (msc (a, b, d, m.2.2.2.1, m.2.2.2.2))) (some x) 3 3 e = some (hput σ x (msc (a, b, d, e, m.2.2.2.2))) := (pf_o (hput_same _ _ _)).trans (congrArg some (hput_hput _ _ _ _))
  simp only [p1, p2, p3, p4, Option.bind_some]
section ME
variable {σ : Hp} {x : Nat} {m : Ms}
theorem me_0 (h : σ.2.2 x = some (msc m)) : gfI σ (some x) 3 0 = some m.1 := gfI_o h rfl
theorem me_1 (h : σ.2.2 x = some (msc m)) : gfI σ (some x) 3 1 = some m.2.1 := gfI_o h rfl
theorem me_2 (h : σ.2.2 x = some (msc m)) : gfI σ (some x) 3 2 = some m.2.2.1 := gfI_o h rfl
theorem me_3 (h : σ.2.2 x = some (msc m)) : gfI σ (some x) 3 3 = some m.2.2.2.1 := gfI_o h rfl
theorem me_4 (h : σ.2.2 x = some (msc m)) : gfI σ (some x) 3 4 = some m.2.2.2.2 := gfI_o h rfl
def cde (m : Ms) : Int32 := (((m.2.1 + ((64 : Int32) * m.2.2.2.1)) + ((256 : Int32) * m.2.2.1)) + ((1024 : Int32) * m.1)) + (if m.2.2.2.2 = 0 then 0 else 4096)
theorem Me_code (h : σ.2.2 x = some (msc m)) : cI rF nMe_code [sA (some x)] σ = some (cde m, σ) := by
  refine cI_of ((eMe_code _ σ).trans ?_)
  simp only [me_0 h, me_1 h, me_2 h, me_3 h, me_4 h, Option.bind_some, eMe_code_44]
  unfold cde
  split <;> rfl
end ME
section WI
variable {σ : Hp} {wi wa c : Nat} {ma : Nat → Nat} {M : Nat → Ms}
theorem WiR.f0 (h : WiR σ wi wa ma M c) : gfA σ (some wi) 7 0 = some (some wa) := gfA_o h.1 rfl
theorem WiR.f1 (h : WiR σ wi wa ma M c) : gfI σ (some wi) 7 1 = some (nI c) := gfI_o h.1 rfl
theorem WiR.rc (h : WiR σ wi wa ma M c) (t : List sv) : rcv σ (sA (some wi) :: t) 7 = some wi := rcv_o h.1
theorem Wi_find (h : WiR σ wi wa ma M c) {k : Nat} (hk : k < c) : cA rF nWi_find [sA (some wi), sI (nI k)] σ = some (some (ma k), σ) := by
  refine cA_of ((eWi_find _ _ σ).trans ?_)
  obtain ⟨f, h2, h3⟩ := h.2.1
  have hc := h.2.2.2.2
  have n1 : ¬ nI k < 0 := fun z => by
    have := (nI_ltI (a := k) (b := 0) (by omega) (by decide)).mp z
    omega
  have n2 : ¬ nI c ≤ nI k := fun z => by
    have := (nI_leI (a := c) (b := k) (by omega) (by omega)).mp z
    omega
  have g1 : alA σ (some wa) (nI k) = some (some (ma k)) := (alA_o h2 rfl (by omega) (by decide)).trans (by rw [h3 k hk])
  rw [if_neg n1]
  simp only [h.f1, h.f0, Option.bind_some, if_neg n2, g1, eWi_find_22]
theorem Wi_find_no (h : WiR σ wi wa ma M c) {x : Int32} (hx : x < 0 ∨ nI c ≤ x) : cA rF nWi_find [sA (some wi), sI x] σ = some (none, σ) := by
  refine cA_of ((eWi_find _ _ σ).trans ?_)
  simp only [h.f1, Option.bind_some, eWi_find_21, eWi_find_22]
  rcases hx with z | z
  · rw [if_pos z]
  · rw [if_pos z]
    split <;> rfl
theorem Wi_send (hF : Hfr σ) (h : WiR σ wi wa ma M c) (a b d e : Int32) : ∃ σ1, cV rF nWi_send [sA (some wi), sI a, sI b, sI d, sI e] σ = some σ1 ∧ WiR σ1 wi wa (va_up ma c σ.1) (va_up M c (a, b, d, e, 0)) (if c = 24 then 24 else c + 1) ∧ Hfr σ1 ∧ (σ1.1 = if c = 24 then σ.1 else σ.1 + 1) ∧ (σ1.2.1 = if c = 24 then σ.2.1 else σ.2.1 + 5) ∧ FrW wi wa σ σ1 := by
  obtain ⟨h1, ⟨f, h2, h3⟩, h4, h5, hc⟩ := h
  by_cases c24 : c = 24
  · subst c24
    rw [if_pos rfl, if_pos rfl, if_pos rfl]
    refine ⟨σ, cV_of ((eWi_send _ _ _ _ _ σ).trans ?_), ⟨h1, ⟨f, h2, fun j hj => ?_⟩, fun j hj => ?_, fun i j hi hj q => ?_, hc⟩, hF, rfl, rfl, fun _ _ _ _ => rfl⟩
    · have g1 : gfI σ (some wi) 7 1 = some (nI 24) := gfI_o h1 rfl
      simp only [g1, Option.bind_some, if_pos (show (24 : Int32) ≤ nI 24 by decide), eWi_send_40]
    · rw [va_up_ne _ _ (by omega)]
      exact h3 j hj
    · rw [va_up_ne _ _ (by omega), va_up_ne _ _ (by omega)]
      exact h4 j hj
    · rw [va_up_ne _ _ (by omega), va_up_ne _ _ (by omega)] at q
      exact h5 i j hi hj q
  · have hlt : c < 24 := by omega
    have lwi := hF.lt h1
    have lwa := hF.lt h2
    have lma : ∀ j, j < c → ma j < σ.1 := fun j hj => hF.lt (h4 j hj)
    have hne : wi ≠ wa := fun z => by
      rw [z, h2] at h1
      cases h1
    have hnm : ∀ j, j < c → ma j ≠ wi ∧ ma j ≠ wa := fun j hj => by
      have hj4 := h4 j hj
      refine ⟨fun z => ?_, fun z => ?_⟩
      · rw [z, h1] at hj4
        injection hj4 with q
        injection q with q
        injection q with q1 q2
        cases q1
      · rw [z, h2] at hj4
        cases hj4
    rw [if_neg c24, if_neg c24, if_neg c24]
    let σa : Hp := mkO σ 3
    let σb : Hp := hput σa σ.1 (msc (a, b, d, e, 0))
    let σc : Hp := hput σb wa (.inl (4, 24, .inr (.inr (va_up f c (some σ.1)))))
    let σd : Hp := hput σc wi (.inr (7, [sA (some wa), sI (nI (c + 1))]))
    have a0 : σa.2.2 σ.1 = some (msc (0, 0, 0, 0, 0)) := hnew_same _ _ _
    have aN : ∀ x, x ≠ σ.1 → σa.2.2 x = σ.2.2 x := fun x hx => hnew_ne hx
    have bN : ∀ x, x ≠ σ.1 → σb.2.2 x = σ.2.2 x := fun x hx => (hput_ne hx).trans (aN x hx)
    have b0 : σb.2.2 σ.1 = some (msc (a, b, d, e, 0)) := hput_same _ _ _
    have cN : ∀ x, x ≠ σ.1 → x ≠ wa → σc.2.2 x = σ.2.2 x := fun x hx hy => (hput_ne hy).trans (bN x hx)
    have c0 : σc.2.2 σ.1 = some (msc (a, b, d, e, 0)) := (hput_ne (by omega)).trans b0
    have cA : σc.2.2 wa = some (.inl (4, 24, .inr (.inr (va_up f c (some σ.1))))) := hput_same _ _ _
    have dN : ∀ x, x ≠ σ.1 → x ≠ wa → x ≠ wi → σd.2.2 x = σ.2.2 x := fun x hx hy hz => (hput_ne hz).trans (cN x hx hy)
    have Fa : Hfr σa := hF.new
    have la : σa.1 = σ.1 + 1 := rfl
    have Fd : Hfr σd := ((Fa.put (by omega)).put (show wa < σ.1 + 1 by omega)).put (show wi < σ.1 + 1 by omega)
    refine ⟨σd, cV_of ((eWi_send _ _ _ _ _ σ).trans ?_), ⟨hput_same _ _ _, ⟨_, (hput_ne (fun z => hne z.symm)).trans cA, fun j hj => ?_⟩, fun j hj => ?_, fun i j hi hj q => ?_, by omega⟩, Fd, rfl, rfl, fun x hx hy hz => dN x (by omega) hz hy⟩
    · have g1 : gfI σ (some wi) 7 1 = some (nI c) := gfI_o h1 rfl
      have g2 : gfA σ (some wi) 7 0 = some (some wa) := gfA_o h1 rfl
      have n1 : ¬ (24 : Int32) ≤ nI c := nI_ge (b := 24) hlt (by decide)
      have r1 : rcv (mkO σ 3) [sA (some σ.1), sI a, sI b, sI d, sI e] 3 = some σ.1 := rcv_o (show (mkO σ 3).2.2 σ.1 = some (.inr (3, _)) from a0)
      have i1 : cV rF nMe_init [sA (some σ.1), sI a, sI b, sI d, sI e] (mkO σ 3) = some σb := Me_init a0 a b d e
      have s1 : asA σb (some wa) (nI c) (some σ.1) = some σc := asA_o (show σb.2.2 wa = some (.inl (4, 24, .inr (.inr f))) from (bN wa (by omega)).trans h2) rfl hlt (by decide) (rok_o (show σb.2.2 σ.1 = some (.inr (3, _)) from b0))
      have cW : σc.2.2 wi = some (.inr (7, [sA (some wa), sI (nI c)])) := (cN wi (by omega) hne).trans h1
      have g3 : gfI σc (some wi) 7 1 = some (nI c) := gfI_o cW rfl
      have p1 : pfI σc (some wi) 7 1 (nI (c + 1)) = some σd := pf_o cW
      simp only [g1, g2, Option.bind_some, if_neg n1, r1, i1, s1, g3, nI1, p1, eWi_send_40]
    · by_cases cj : j = c
      · rw [cj, va_up_self, va_up_self]
      · rw [va_up_ne _ _ cj, va_up_ne _ _ cj]
        exact h3 j (by omega)
    · by_cases cj : j = c
      · rw [cj, va_up_self, va_up_self]
        exact (hput_ne (by omega)).trans c0
      · rw [va_up_ne _ _ cj, va_up_ne _ _ cj]
        have hj' : j < c := by omega
        have := lma j hj'
        exact (dN (ma j) (by omega) (hnm j hj').2 (hnm j hj').1).trans (h4 j hj')
    · by_cases ci : i = c
      · by_cases cj : j = c
        · omega
        · rw [ci, va_up_self, va_up_ne _ _ cj] at q
          have := lma j (by omega)
          omega
      · by_cases cj : j = c
        · rw [cj, va_up_self, va_up_ne _ _ ci] at q
          have := lma i (by omega)
          omega
        · rw [va_up_ne _ _ ci, va_up_ne _ _ cj] at q
          exact h5 i j (by omega) (by omega) q
end WI
