/-! The class publishes an event. -/
def X0 (E : Ed) (N k u t : Nat) (v : Int32) (pv : Int64) : Ed := Ex E (N + 1) k u t v 0 0 pv 0 0 (fun _ => 0) (fun _ => 0)
/-- is the new event good: its auths allow it, and the state before it -/
def gN (E : Ed) (N k u t : Nat) (v : Int32) (pv : Int64) (g : Nat → Nat) : Int32 := if alw (X0 E N k u t v pv) (tkA E g u k t).2.2 (N + 1) = 0 then 0 else if alw (X0 E N k u t v pv) g (N + 1) = 0 then 0 else 1
/-- the events' data with the new event -/
def EN (E : Ed) (N k u t : Nat) (v tm : Int32) (pv : Int64) (g : Nat → Nat) : Ed := Ex E (N + 1) k u t v tm (gN E N k u t v pv g) pv (tkA E g u k t).1 (tkA E g u k t).2.1 (fFn k t (N + 1) (gN E N k u t v pv g) g) (tkA E g u k t).2.2
/-- the new event goes to the other two servers -/
def pbl (p e : Nat) : Nat → Nat → Mq → Mq
  | _, 0, q => q
  | i, d + 1, q => pbl p e (i + 1) d (if i = p then q else sd1 q (1, nI e, nI p, nI i, 0))
theorem gN_01 (E : Ed) (N k u t : Nat) (v : Int32) (pv : Int64) (g : Nat → Nat) : gN E N k u t v pv g = 0 ∨ gN E N k u t v pv g = 1 := i01 o0 (i01 o0 o1)
theorem EN_inv {E : Ed} {N k u t : Nat} {v tm : Int32} {pv : Int64} {g : Nat → Nat} (h : InV E N) (hN : N < 40) (hg : Kok E N g) (h0 : g 0 = 1) (k1 : 1 ≤ k) (k7 : k ≤ 7) (hu : u < 6) (ht : t < 6) (hS : ∀ i, hb pv i = true → 1 ≤ i ∧ i ≤ N) : InV (EN E N k u t v tm pv g) (N + 1) := by
  refine h.ext hN hg h0 k1 k7 hu ht (gN_01 _ _ _ _ _ _ _ _) hS (fun hG c7 hz => hG ?_) (tkA_tk hg.gle (by omega) hu ht k1 k7)
  subst c7
  unfold gN
  split
  · rfl
  · have ek : eK (X0 E N 7 u t v pv) (N + 1) = 7 := va_up_self _ _ _
    have es : eS (X0 E N 7 u t v pv) (N + 1) = u := va_up_self _ _ _
    have ea : alw (X0 E N 7 u t v pv) g (N + 1) = 0 := by
      unfold alw
      split
      · rfl
      · rw [ek, es]
        show (if ¬ mm (X0 E N 7 u t v pv) g u = 1 then (0 : Int32) else 1) = 0
        have hm : mm (X0 E N 7 u t v pv) g u = 0 := by
          unfold mm
          rw [if_pos hz]
        rw [hm, if_pos (by decide)]
    rw [if_pos ea]
theorem MsI.pblz {N p e : Nat} (hp : p < 3) (e1 : 1 ≤ e) (e2 : e ≤ N) : ∀ (d i : Nat) (q : Mq), i + d = 3 → MsI N q.1 q.2 → MsI N (pbl p e i d q).1 (pbl p e i d q).2 := by
  intro d
  induction d with
  | zero => intro i q _ h; exact h
  | succ d ih =>
    intro i q hi h
    show MsI N (pbl p e (i + 1) d (if i = p then q else sd1 q (1, nI e, nI p, nI i, 0))).1 (pbl p e (i + 1) d (if i = p then q else sd1 q (1, nI e, nI p, nI i, 0))).2
    refine ih _ _ (by omega) ?_
    by_cases c : i = p
    · rw [if_pos c]
      exact h
    · rw [if_neg c]
      exact h.sdz ⟨Or.inl rfl, ⟨e, e1, e2, rfl⟩, ⟨p, hp, rfl⟩, ⟨i, by omega, rfl⟩, Or.inl rfl⟩
theorem MsI.mono {N N' c : Nat} {M : Nat → Ms} (h : MsI N M c) (hN : N ≤ N') : MsI N' M c := by
  intro j hj
  obtain ⟨a, ⟨e, e1, e2, e3⟩, r⟩ := h j hj
  exact ⟨a, ⟨e, e1, by omega, e3⟩, r⟩
section PUB
variable {o b sL rm sr wi wa N : Nat} {xs : Nat → Int32} {se : Nat → Nat} {P : Pa} {E : Ed} {Q : Nat → Sv} {nw : Int32}
theorem Rm_publish_90 {e p : Nat} (he1 : 1 ≤ e) (he2 : e ≤ N) (hp : p < 3) : ∀ (d i : Nat) (σ : Hp) (ma : Nat → Nat) (q : Mq), i + d = 3 → ClR σ o b sL xs rm sr wi wa se ma P E N Q q.1 q.2 nw → ∃ σ1 ma1, fRm_publish_90 (some rm) (some (pe P e)) (nI p) (nI i) σ = some (none, σ1) ∧ ClR σ1 o b sL xs rm sr wi wa se ma1 P E N Q (pbl p e i d q).1 (pbl p e i d q).2 nw ∧ FrW wi wa σ σ1 ∧ σ.1 ≤ σ1.1 ∧ σ1.1 + q.2 = σ.1 + (pbl p e i d q).2 ∧ σ1.2.1 + 5 * q.2 = σ.2.1 + 5 * (pbl p e i d q).2 := by
  intro d
  induction d with
  | zero =>
    intro i σ ma q hi h
    have : i = 3 := by omega
    subst this
    refine ⟨σ, ma, ?_, h, FrW.rf _ _ _, Nat.le_refl _, rfl, rfl⟩
    rw [eRm_publish_90, if_pos (show (3 : Int32) ≤ nI 3 by decide)]
  | succ d ih =>
    intro i σ ma q hi h
    have hC := h
    obtain ⟨r1, ⟨ag, gA, gT, gR, ml, pl, hv, -⟩, ⟨hN, -⟩, -, h5, -⟩ := h
    have n3 : ¬ (3 : Int32) ≤ nI i := nIng (c := 3) (by decide) (by omega)
    rw [eRm_publish_90, if_neg n3, eRm_publish_114, nI1]
    have hu : pbl p e i (d + 1) q = pbl p e (i + 1) d (if i = p then q else sd1 q (1, nI e, nI p, nI i, 0)) := rfl
    by_cases cp : i = p
    · rw [if_pos (congrArg nI cp), hu, if_pos cp]
      exact ih (i + 1) σ ma q (by omega) hC
    · have nip : ¬ nI i = nI p := fun z => cp ((nI_eq (by omega) (by omega)).mp z)
      rw [if_neg nip, hu, if_neg cp]
      obtain ⟨σ1, ma1, e1, c1, f1, l1, s1, s2⟩ := hC.send 1 (nI e) (nI p) (nI i)
      obtain ⟨σ2, ma2, e2, c2, f2, l2, t1, t2⟩ := ih (i + 1) σ1 ma1 _ (by omega) c1
      refine ⟨σ2, ma2, ?_, c2, f1.tr l1 f2, by omega, by omega, by omega⟩
      simp only [r1.f3, (hv.ev e he1 he2).num, h5.rc, e1, Option.bind_some, eRm_publish_114, nI1]
      exact e2
/-- from the kept event on: a look at home, two messages -/
theorem Rm_publish_K {σ : Hp} {ma : Nat → Nat} {M : Nat → Ms} {c e p : Nat} (h : ClR σ o b sL xs rm sr wi wa se ma P E N Q M c nw) (he1 : 1 ≤ e) (he2 : e ≤ N) (hp : p < 3) : ∃ σ1 ma1, ((gfA σ (some rm) 0 2).bind fun v79 => (alA σ v79 (nI p)).bind fun v83 => (rcv σ [sA (some rm), sA v83, sA (some (pe P e))] 0).bind fun _ => (cV rF nRm_lookAt [sA (some rm), sA v83, sA (some (pe P e))] σ).bind fun q85 => fRm_publish_90 (some rm) (some (pe P e)) (nI p) (0 : Int32) q85) = some (none, σ1) ∧ ClR σ1 o b sL xs rm sr wi wa se ma1 P E N (va_up Q p (lkE E N 41 (Q p) e)) (pbl p e 0 3 (M, c)).1 (pbl p e 0 3 (M, c)).2 nw ∧ Kp22 o σ σ1 ∧ σ1.1 ≤ σ.1 + 24 ∧ σ1.2.1 ≤ σ.2.1 + 120 := by
  have hC := h
  obtain ⟨r1, ⟨ag, gA, gT, gR, ml, pl, hv, -⟩, ⟨hN, -⟩, h4, h5, h6, h7, h8, ⟨o1, o2, o3, o4, o5⟩, o6, -⟩ := h
  have lk : cV rF nRm_lookAt [sA (some rm), sA (some (se p)), sA (some (pe P e))] σ = some (hput σ (se p) (sec (lkE E N 41 (Q p) e))) := by
    have := Rm_lookAt hN he2 r1 hv.hi hv.ev (h4.2.1 p hp)
    rw [er_n (show e ≠ 0 by omega)] at this
    exact this
  obtain ⟨σ1, ma1, e1, c1, f1, l1, s1, s2⟩ := Rm_publish_90 (xs := xs) he1 he2 hp 3 0 _ ma (M, c) (by decide) (hC.srv hp (lkE E N 41 (Q p) e))
  have c24 := c1.2.2.2.2.1.2.2.2.2
  refine ⟨σ1, ma1, ?_, c1, ((o6 p hp).put).tr (f1.kp22 o3 o4 h8), ?_, ?_⟩
  · simp only [r1.f2, h4.at hp, r1.rc, lk, Option.bind_some]
    exact e1
  · have s1' : σ1.1 + c = σ.1 + (pbl p e 0 3 (M, c)).2 := s1
    omega
  · have s2' : σ1.2.1 + 5 * c = σ.2.1 + 5 * (pbl p e 0 3 (M, c)).2 := s2
    omega
theorem tkA_gle {g : Nat → Nat} (hg : gle g N) (hN : N ≤ 40) {u k t : Nat} (hu : u < 6) (ht : t < 6) (k1 : 1 ≤ k) (k7 : k ≤ 7) : gle (tkA E g u k t).2.2 N := by
  intro j hj
  rw [(tkA_tk (E := E) hg hN hu ht k1 k7).2.2 j hj]
  split
  · exact hg j hj
  · exact Nat.zero_le _
theorem Rm_publish {σ0 σ : Hp} {ma : Nat → Nat} {M : Nat → Ms} {c k u t : Nat} {ea : Nat → Nat} {pv : Int64} {v : Int32} {g : Nat → Nat} (hC : ClR σ0 o b sL xs rm sr wi wa se ma P E N Q M c nw) (h : Mid σ0 σ o P E N ea k u t pv v 0 (0, 0, fun _ => 0) 0 g (fun _ => 0)) (hs : Mst σ0 P E N ea) (hI : InV E N) (hg : Kok E N g) (h0 : g 0 = 1) (k1 : 1 ≤ k) (k7 : k ≤ 7) (hu : u < 6) (ht : t < 6) (hS : ∀ i, hb pv i = true → 1 ≤ i ∧ i ≤ N) : ∃ σ1 ma1, cV rF nRm_publish [sA (some rm), sA (some σ0.1)] σ = some σ1 ∧ ClR σ1 o b sL xs rm sr wi wa se ma1 (Pn P N σ0.1 ea (pd P)) (EN E N k u t v (nw + (Q (u % 3)).2.2.2) pv g) (N + 1) (va_up Q (u % 3) (lkE (EN E N k u t v (nw + (Q (u % 3)).2.2.2) pv g) (N + 1) 41 (Q (u % 3)) (N + 1))) (pbl (u % 3) (N + 1) 0 3 (M, c)).1 (pbl (u % 3) (N + 1) 0 3 (M, c)).2 nw ∧ Kp22 o σ0 σ1 ∧ σ1.1 ≤ σ0.1 + 31 ∧ σ1.2.1 ≤ σ0.2.1 + 163 := by
  have hC' := hC
  obtain ⟨r1, -, -, h4, h5, h6, h7, h8, ⟨o1, o2, o3, o4, o5⟩, o6, o7, o8⟩ := hC'
  have hN := hs.1
  have hp : u % 3 < 3 := Nat.mod_lt _ (by decide)
  have rA : ∀ {s : Hp}, Kg 2 σ0 s → RmC s rm (pd P 0) (pd P 2) sr wi (pd P 10) nw := fun hk => hk _ _ rfl r1
  have m4 := h.2.2.2.1
  have rS := rA (m4 2 (by decide))
  have sS := h4.kg (m4 3 (by decide))
  have gq : gfI σ (some (se (u % 3))) 5 3 = some (Q (u % 3)).2.2.2 := gfI_o (sS.2.1 _ hp) rfl
  have hu3 := md3 u hu
  -- its time
  have w1 := h.1.put v (nw + (Q (u % 3)).2.2.2) 0 0 0
  have p1 : pfI σ (some σ0.1) 1 9 (nw + (Q (u % 3)).2.2.2) = some (hput σ σ0.1 (evx (nI (N + 1)) (nI k) (nI u) (nI t) pv (some (σ0.1 + 1)) (some (σ0.1 + 3)) (some (σ0.1 + 5)) v (nw + (Q (u % 3)).2.2.2) 0 0 0)) := pf_o h.1.1
  have M1 := h.step hs h8 h6 w1 (FrX.put (Or.inl rfl))
  generalize hput σ σ0.1 (evx (nI (N + 1)) (nI k) (nI u) (nI t) pv (some (σ0.1 + 1)) (some (σ0.1 + 3)) (some (σ0.1 + 5)) v (nw + (Q (u % 3)).2.2.2) 0 0 0) = σ1 at w1 p1 M1
  -- its auths
  obtain ⟨σ2, e2, w2, f2⟩ := Ev_takeAuths w1 M1.ev hg.gle hs.ne k1 k7 hu ht
  have M2 := M1.step hs h8 h6 w2 (f2.mono (fun a ha => by rcases ha with z | z; exact Or.inl z; exact Or.inr (Or.inl z)))
  have hfA := tkA_gle (E := E) hg.gle (show N ≤ 40 by omega) hu ht k1 k7
  have hX := fun (fF' fA' : Nat → Nat) => kyN_Ex E (N + 1) k u t v (nw + (Q (u % 3)).2.2.2) 0 pv (tkA E g u k t).1 (tkA E g u k t).2.1 fF' fA'
  have es : ∀ fF' fA' : Nat → Nat, eS (Ex E (N + 1) k u t v (nw + (Q (u % 3)).2.2.2) 0 pv (tkA E g u k t).1 (tkA E g u k t).2.1 fF' fA') (N + 1) = u := fun _ _ => va_up_self _ _ _
  have et : ∀ fF' fA' : Nat → Nat, eT (Ex E (N + 1) k u t v (nw + (Q (u % 3)).2.2.2) 0 pv (tkA E g u k t).1 (tkA E g u k t).2.1 fF' fA') (N + 1) = t := fun _ _ => va_up_self _ _ _
  have al2 : cI rF nSt_allows [sA (some (σ0.1 + 3)), sA (some σ0.1)] σ2 = some (alw (X0 E N k u t v pv) (tkA E g u k t).2.2 (N + 1), σ2) := by
    have z := St_allows w2.st2 (M2.ev.sam Ex_sam) hfA (w2.evo E (fun _ => 0) (fun _ => 0)) (by rw [(hX _ _).1]; exact k7) (by rw [es]; exact hu) (by rw [et]; exact ht)
    exact z.trans (congrArg (fun r => some (r, σ2)) (alw_ex _ _ _ _ _ _ _ _ _ _ _ _ _ _ _ _ _ _ _ _ _))
  have al1 : cI rF nSt_allows [sA (some (σ0.1 + 1)), sA (some σ0.1)] σ2 = some (alw (X0 E N k u t v pv) g (N + 1), σ2) := by
    have z := St_allows w2.st1 (M2.ev.sam Ex_sam) hg.gle (w2.evo E (fun _ => 0) (fun _ => 0)) (by rw [(hX _ _).1]; exact k7) (by rw [es]; exact hu) (by rw [et]; exact ht)
    exact z.trans (congrArg (fun r => some (r, σ2)) (alw_ex _ _ _ _ _ _ _ _ _ _ _ _ _ _ _ _ _ _ _ _ _))
  have ss2 : ∀ l, rcv σ2 (sA (some (σ0.1 + 3)) :: l) 6 = some (σ0.1 + 3) := fun l => w2.st2.rc l
  have ss1 : ∀ l, rcv σ2 (sA (some (σ0.1 + 1)) :: l) 6 = some (σ0.1 + 1) := fun l => w2.st1.rc l
  have ss3 : ∀ l, rcv σ2 (sA (some (σ0.1 + 5)) :: l) 6 = some (σ0.1 + 5) := fun l => rcv_o w2.2.2.2.1.1
  -- the state behind it
  have st3 : ∃ σ3, (if alw (X0 E N k u t v pv) (tkA E g u k t).2.2 (N + 1) = 0 then fRm_publish_58 (some rm) (some σ0.1) (nI (u % 3)) σ2 else if alw (X0 E N k u t v pv) g (N + 1) = 0 then fRm_publish_58 (some rm) (some σ0.1) (nI (u % 3)) σ2 else (cV rF nEv_makeGood [sA (some σ0.1)] σ2).bind fun q52 => fRm_publish_69 (some rm) (some σ0.1) (nI (u % 3)) q52) = fRm_publish_69 (some rm) (some σ0.1) (nI (u % 3)) σ3 ∧ Mid σ0 σ3 o P E N ea k u t pv v (nw + (Q (u % 3)).2.2.2) (tkA E g u k t) (gN E N k u t v pv g) g (fFn k t (N + 1) (gN E N k u t v pv g) g) := by
    have bad : gN E N k u t v pv g = 0 → ∃ σ3, fRm_publish_58 (some rm) (some σ0.1) (nI (u % 3)) σ2 = fRm_publish_69 (some rm) (some σ0.1) (nI (u % 3)) σ3 ∧ Mid σ0 σ3 o P E N ea k u t pv v (nw + (Q (u % 3)).2.2.2) (tkA E g u k t) (gN E N k u t v pv g) g (fFn k t (N + 1) (gN E N k u t v pv g) g) := by
      intro hz
      obtain ⟨σ3, e3, w3, f3⟩ := Ev_copy w2 M2.ev hg.gle
      have M3 := M2.step hs h8 h6 w3 (f3.mono (fun a ha => Or.inr (Or.inr ha)))
      refine ⟨σ3, ?_, ?_⟩
      · rw [eRm_publish_58]
        simp only [w2.f7, w2.f5, ss3, e3, Option.bind_some]
      · rw [hz]
        have ff : fFn k t (N + 1) 0 g = g := by
          unfold fFn
          rw [if_pos rfl]
        rw [ff]
        exact M3
    by_cases c1 : alw (X0 E N k u t v pv) (tkA E g u k t).2.2 (N + 1) = 0
    · rw [if_pos c1]
      refine bad ?_
      unfold gN
      rw [if_pos c1]
    · rw [if_neg c1]
      by_cases c2 : alw (X0 E N k u t v pv) g (N + 1) = 0
      · rw [if_pos c2]
        refine bad ?_
        unfold gN
        rw [if_neg c1, if_pos c2]
      · rw [if_neg c2]
        obtain ⟨σ3, e3, w3, f3⟩ := Ev_makeGood w2 M2.ev hg.gle hs.ne k7 ht hs.2.1 (by omega)
        have M3 := M2.step hs h8 h6 w3 (f3.mono (fun a ha => by rcases ha with z | z; exact Or.inl z; exact Or.inr (Or.inr z)))
        have hz : gN E N k u t v pv g = 1 := by
          unfold gN
          rw [if_neg c1, if_neg c2]
        refine ⟨σ3, ?_, ?_⟩
        · simp only [e3, Option.bind_some]
        · rw [hz]
          exact M3
  obtain ⟨σ3, e3, M3⟩ := st3
  have hIN : InV (EN E N k u t v (nw + (Q (u % 3)).2.2.2) pv g) (N + 1) := EN_inv hI hN hg h0 k1 k7 hu ht hS
  obtain ⟨σ4, e4, c4, k4, s4, s4'⟩ := M3.keep hC hs hIN
  have pe4 : pe (Pn P N σ0.1 ea (pd P)) (N + 1) = σ0.1 := hs.2.1
  obtain ⟨σ5, ma5, e5, c5, k5, s5, s5'⟩ := Rm_publish_K c4 (show 1 ≤ N + 1 by omega) (Nat.le_refl _) hp
  rw [pe4] at e5
  have r3 := rA (M3.2.2.2.1 2 (by decide))
  obtain ⟨ag, gA, gT, gV, ml, pl, v3, -⟩ := M3.2.1
  have hi3 : ∀ l, rcv σ3 (sA (some (pd P 0)) :: l) 2 = some (pd P 0) := fun l => by
    have := v3.hi.rc l
    rw [show pd (Pn P N σ0.1 ea (dN P σ0.1)) 0 = pd P 0 from dN_n (P := P) (x := σ0.1) (i := 0) (by decide) (by decide)] at this
    exact this
  refine ⟨σ5, ma5, cV_of ((eRm_publish _ _ σ).trans ?_), c5, k4.tr k5, by omega, by omega⟩
  simp only [h.1.f2, rS.f5, rS.f2, hu3, sS.at hp, gq, p1, w1.rc, e2, w2.f6, ss2, al2, w2.f5, ss1, al1, w2.rc, Option.bind_some]
  rw [e3, eRm_publish_69]
  simp only [r3.f0, hi3, e4, Option.bind_some]
  exact e5
end PUB
