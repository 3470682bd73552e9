/-! The class's constructor: its two events, its servers. -/
def E0 : Ed := (fun _ => 0, fun _ => 0, fun _ => 0, fun _ => 0, fun _ => 0, fun _ => 0, fun _ => 0, fun _ => 0, fun _ => 0, fun _ _ => 0, fun _ _ => 0)
def g1 : Nat → Nat := fFn 0 0 1 1 (fun _ => 0)
def E1 : Ed := Ex E0 1 0 0 0 0 0 1 0 0 0 g1 (fun _ => 0)
def q2 : Int64 × Int64 × (Nat → Nat) := tkA E1 g1 0 1 0
def E2 : Ed := Ex E1 2 1 0 0 0 0 1 (bitN 1) q2.1 q2.2.1 (fFn 1 0 2 1 g1) q2.2.2
def ea2 (s : Nat) : Nat → Nat := fun n => if n = 1 then s + 15 else s + 22
theorem g1_at (j : Nat) : g1 j = if j = 0 then 1 else 0 := by
  unfold g1 fFn kyk
  rw [if_neg (by decide), if_neg (by decide), if_pos rfl]
  by_cases c : j = 0
  · rw [c, va_up_self, if_pos rfl]
  · rw [va_up_ne _ _ c, if_neg c]
theorem g1_le : gle g1 1 := by
  intro j _
  rw [g1_at]
  split <;> omega
/-- what the events' making leaves alone -/
def Fr15 (s : Nat) (σ σ1 : Hp) : Prop := ∀ a, a < s + 15 → a ≠ s → a ≠ s + 1 → σ1.2.2 a = σ.2.2 a
theorem Rm_init_B {σ : Hp} {rm s : Nat} (hF : Hfr σ) (hn : σ.1 = s + 15) (hrs : rm < s) (hB : RmB σ rm s) : ∃ σ3, ((rcv (mkO σ 1) [sA (some (Prod.fst σ)), sI (1 : Int32), sI (0 : Int32), sI (0 : Int32), sI (0 : Int32), sJ (0 : Int64)] 1).bind fun _ =>
    (cV rF nEv_init [sA (some (Prod.fst σ)), sI (1 : Int32), sI (0 : Int32), sI (0 : Int32), sI (0 : Int32), sJ (0 : Int64)] (mkO σ 1)).bind fun q69 =>
    (rcv q69 [sA (some (Prod.fst σ))] 1).bind fun _ =>
    (cV rF nEv_makeGood [sA (some (Prod.fst σ))] q69).bind fun q74 =>
    (gfA q74 (some rm) 0 0).bind fun v78 =>
    (rcv q74 [sA v78, sA (some (Prod.fst σ))] 2).bind fun _ =>
    (cV rF nHi_keep [sA v78, sA (some (Prod.fst σ))] q74).bind fun q82 =>
    (cJ rF nRm_bit [sI (1 : Int32)] (mkO q82 1)).bind fun q94 =>
    (rcv q94.2 [sA (some (Prod.fst q82)), sI (2 : Int32), sI (1 : Int32), sI (0 : Int32), sI (0 : Int32), sJ q94.1] 1).bind fun _ =>
    (cV rF nEv_init [sA (some (Prod.fst q82)), sI (2 : Int32), sI (1 : Int32), sI (0 : Int32), sI (0 : Int32), sJ q94.1] q94.2).bind fun q97 =>
    (gfA q97 (some (Prod.fst q82)) 1 5).bind fun v102 =>
    (gfA q97 (some (Prod.fst σ)) 1 7).bind fun v106 =>
    (rcv q97 [sA v102, sA v106] 6).bind fun _ =>
    (cV rF nSt_copyFrom [sA v102, sA v106] q97).bind fun q109 =>
    (rcv q109 [sA (some (Prod.fst q82))] 1).bind fun _ =>
    (cV rF nEv_takeAuths [sA (some (Prod.fst q82))] q109).bind fun q113 =>
    (rcv q113 [sA (some (Prod.fst q82))] 1).bind fun _ =>
    (cV rF nEv_makeGood [sA (some (Prod.fst q82))] q113).bind fun q117 =>
    (gfA q117 (some rm) 0 0).bind fun v121 =>
    (rcv q117 [sA v121, sA (some (Prod.fst q82))] 2).bind fun _ =>
    (cV rF nHi_keep [sA v121, sA (some (Prod.fst q82))] q117).bind fun q125 =>
    fRm_init_130 (some rm) (0 : Int32) q125) = fRm_init_130 (some rm) (0 : Int32) σ3 ∧
    EvW σ3 (ea2 s) (s + 15) (s + 16) (s + 17) (s + 18) (s + 19) (s + 20) (s + 21) 1 0 0 0 0 0 0 (0, 0, fun _ => 0) 1 (fun _ => 0) g1 ∧
    EvW σ3 (ea2 s) (s + 22) (s + 23) (s + 24) (s + 25) (s + 26) (s + 27) (s + 28) 2 1 0 0 (bitN 1) 0 0 q2 1 g1 (fFn 1 0 2 1 g1) ∧ HiR σ3 s (s + 1) (ea2 s) 2 ∧ Fr15 s σ σ3 ∧ Hfr σ3 ∧ σ3.1 = s + 29 ∧ σ3.2.1 = σ.2.1 + 86 := by
  obtain ⟨cr, ⟨chi, cev⟩, -⟩ := hB
  have e1a : ea2 s 1 = s + 15 := if_pos rfl
  have e2a : ea2 s 2 = s + 22 := if_neg (by decide)
  -- the first event
  have x0 : (mkO σ 1).2.2 σ.1 = some (.inr (1, cdf 1)) := hnew_same _ _ _
  have rc0 : ∀ l, rcv (mkO σ 1) (sA (some σ.1) :: l) 1 = some σ.1 := fun l => rcv_o x0
  obtain ⟨s1, i1, w0, ⟨w1, w2⟩, ⟨w3, w4⟩, ⟨w5, w6⟩, n1, m1, F1, k1⟩ := Ev_init (show Hfr (mkO σ 1) from hF.new) x0 1 0 0 0 0
  have nn1 : (mkO σ 1).1 = s + 16 := (show σ.1 + 1 = s + 16 by omega)
  have mm1 : (mkO σ 1).2.1 = σ.2.1 + 13 := rfl
  rw [nn1] at w0 w1 w2 w3 w4 w5 w6 n1 k1
  rw [mm1] at m1
  rw [hn] at w0
  have old1 : ∀ a, a < s + 15 → s1.2.2 a = σ.2.2 a := fun a ha => (k1 a (by omega) (by omega)).trans (hnew_ne (by omega))
  have arz : ∀ {h : Hp} {ea : Nat → Nat} {a : Nat}, h.2.2 a = some arN → ArE h ea a (fun _ => 0) := fun ha => ⟨_, ha, fun j _ => by rw [er_0]⟩
  have W1 : EvW s1 (ea2 s) (s + 15) (s + 16) (s + 17) (s + 18) (s + 19) (s + 20) (s + 21) 1 0 0 0 0 0 0 (0, 0, fun _ => 0) 0 (fun _ => 0) (fun _ => 0) := ⟨w0, ⟨w1, arz w2⟩, ⟨w3, arz w4⟩, ⟨w5, arz w6⟩, by omega, by omega, by omega⟩
  obtain ⟨s2, i2, W2, f2⟩ := Ev_makeGood (E := E0) (N := 0) W1 (fun n h1 h2 => by omega) (fun j _ => Nat.le_refl _) (fun n h1 h2 => by omega) (by decide) (by decide) e1a (by decide)
  have old2 : ∀ a, a < s + 15 → s2.2.2 a = σ.2.2 a := fun a ha => (f2.2.2 a (fun z => by rcases z with z | z <;> omega)).trans (old1 a ha)
  have F2 : Hfr s2 := f2.hfr F1 (fun y hy => by rcases hy with z | z <;> omega)
  have n2 : s2.1 = s + 22 := f2.1.trans n1
  have H2 : HiR s2 s (s + 1) (ea2 s) 0 := ⟨(old2 s (by omega)).trans chi, _, (old2 (s + 1) (by omega)).trans cev, fun n h1 h2 => by omega⟩
  obtain ⟨s3, i3, H3, f3⟩ := Hi_keep (x := s + 15) H2 (by decide) e1a ⟨_, W2.1⟩
  have F3 : Hfr s3 := f3.hfr F2 (fun y hy => by rcases hy with z | z <;> omega)
  have n3 : s3.1 = s + 22 := f3.1.trans n2
  have up3 : ∀ a, a ≠ s → a ≠ s + 1 → s3.2.2 a = s2.2.2 a := fun a h1 h2 => f3.2.2 a (fun z => by rcases z with z | z <;> omega)
  -- the second
  have y0 : (mkO s3 1).2.2 s3.1 = some (.inr (1, cdf 1)) := hnew_same _ _ _
  have rc3 : ∀ l, rcv (mkO s3 1) (sA (some s3.1) :: l) 1 = some s3.1 := fun l => rcv_o y0
  obtain ⟨s4, i4, v0, ⟨v1, v2⟩, ⟨v3, v4⟩, ⟨v5, v6⟩, n4, m4, F4, k4⟩ := Ev_init (show Hfr (mkO s3 1) from F3.new) y0 2 1 0 0 (bitN 1)
  have nn4 : (mkO s3 1).1 = s + 23 := (show s3.1 + 1 = s + 23 by omega)
  have mm4 : (mkO s3 1).2.1 = s3.2.1 + 13 := rfl
  rw [nn4] at v0 v1 v2 v3 v4 v5 v6 n4 k4
  rw [mm4] at m4
  rw [n3] at v0
  have old4 : ∀ a, a < s + 22 → s4.2.2 a = s3.2.2 a := fun a ha => (k4 a (by omega) (by omega)).trans (hnew_ne (by omega))
  -- the first event's cells are as they were
  have keepW : ∀ {h : Hp}, (∀ a, s + 15 ≤ a → a < s + 22 → h.2.2 a = s2.2.2 a) → EvW h (ea2 s) (s + 15) (s + 16) (s + 17) (s + 18) (s + 19) (s + 20) (s + 21) 1 0 0 0 0 0 0 (0, 0, fun _ => 0) 1 (fun _ => 0) g1 := fun hh => by
    obtain ⟨c0, ⟨c1, A1⟩, ⟨c2, A2⟩, ⟨c3, A3⟩, d⟩ := W2
    exact ⟨(hh _ (by omega) (by omega)).trans c0, ⟨(hh _ (by omega) (by omega)).trans c1, A1.mono (fun d _ hd => (hh _ (by omega) (by omega)).trans hd)⟩, ⟨(hh _ (by omega) (by omega)).trans c2, A2.mono (fun d _ hd => (hh _ (by omega) (by omega)).trans hd)⟩, ⟨(hh _ (by omega) (by omega)).trans c3, A3.mono (fun d _ hd => (hh _ (by omega) (by omega)).trans hd)⟩, d⟩
  have W4a := keepW (h := s4) (fun a h1 h2 => (old4 a h2).trans (up3 a (by omega) (by omega)))
  have evo : ∀ {h : Hp}, EvW h (ea2 s) (s + 15) (s + 16) (s + 17) (s + 18) (s + 19) (s + 20) (s + 21) 1 0 0 0 0 0 0 (0, 0, fun _ => 0) 1 (fun _ => 0) g1 → EvA h (ea2 s) E1 1 := fun hw n h1 h2 => by
    have : n = 1 := by omega
    subst this
    rw [e1a]
    exact hw.evo E0 g1 (fun _ => 0)
  -- the state before it
  obtain ⟨fa3, hfa3, hfa3'⟩ := W4a.2.2.2.1.2
  have ok : ∀ j, j < 9 → rok s4 (fa3 j) 1 = true := fun j hj => by
    rw [hfa3' j hj, g1_at]
    by_cases c : j = 0
    · rw [if_pos c, er_n (by decide), e1a]
      exact rok_o W4a.1
    · rw [if_neg c, er_0]
      exact rok_n _ _
  have i5 := St_copyFrom v1 v2 W4a.2.2.2.1.1 hfa3 (show s + 24 ≠ s + 21 by omega) ok
  have kk5 : ∀ a, a ≠ s + 24 → (hput s4 (s + 24) (cpc (fun _ => none) fa3 9)).2.2 a = s4.2.2 a := fun a ha => hput_ne ha
  have c5 : (hput s4 (s + 24) (cpc (fun _ => none) fa3 9)).2.2 (s + 24) = some (cpc (fun _ => none) fa3 9) := hput_same _ _ _
  have F5 : Hfr (hput s4 (s + 24) (cpc (fun _ => none) fa3 9)) := F4.put (by omega)
  have n5 : (hput s4 (s + 24) (cpc (fun _ => none) fa3 9)).1 = s + 29 := n4
  have m5 : (hput s4 (s + 24) (cpc (fun _ => none) fa3 9)).2.1 = s4.2.1 := rfl
  generalize hput s4 (s + 24) (cpc (fun _ => none) fa3 9) = s5 at *
  have A5 : ArE s5 (ea2 s) (s + 24) g1 := ⟨_, c5, fun j hj => by
    show (if j < 9 then fa3 j else none) = _
    rw [if_pos hj]
    exact hfa3' j hj⟩
  have W5 : EvW s5 (ea2 s) (s + 22) (s + 23) (s + 24) (s + 25) (s + 26) (s + 27) (s + 28) 2 1 0 0 (bitN 1) 0 0 (0, 0, fun _ => 0) 0 g1 (fun _ => 0) := ⟨(kk5 _ (by omega)).trans v0, ⟨(kk5 _ (by omega)).trans v1, A5⟩, ⟨(kk5 _ (by omega)).trans v3, arz ((kk5 _ (by omega)).trans v4)⟩, ⟨(kk5 _ (by omega)).trans v5, arz ((kk5 _ (by omega)).trans v6)⟩, by omega, by omega, by omega⟩
  have old5 : ∀ a, a < s + 22 → s5.2.2 a = s3.2.2 a := fun a ha => (kk5 a (by omega)).trans (old4 a ha)
  have W5a := keepW (h := s5) (fun a h1 h2 => (old5 a h2).trans (up3 a (by omega) (by omega)))
  have ne22 : ∀ n, 1 ≤ n → n ≤ 1 → ea2 s n ≠ s + 22 := fun n h1 h2 => by
    have : n = 1 := by omega
    subst this
    rw [e1a]
    omega
  obtain ⟨s6, i6, W6, f6⟩ := Ev_takeAuths W5 (evo W5a) g1_le ne22 (by decide) (by decide) (by decide) (by decide)
  have old6 : ∀ a, a < s + 22 → s6.2.2 a = s3.2.2 a := fun a ha => (f6.2.2 a (fun z => by rcases z with z | z <;> omega)).trans (old5 a ha)
  have W6a := keepW (h := s6) (fun a h1 h2 => (old6 a h2).trans (up3 a (by omega) (by omega)))
  obtain ⟨s7, i7, W7, f7⟩ := Ev_makeGood W6 (evo W6a) g1_le ne22 (by decide) (by decide) e2a (by decide)
  have old7 : ∀ a, a < s + 22 → s7.2.2 a = s3.2.2 a := fun a ha => (f7.2.2 a (fun z => by rcases z with z | z <;> omega)).trans (old6 a ha)
  have F6 : Hfr s6 := f6.hfr F5 (fun y hy => by rcases hy with z | z <;> omega)
  have n6 : s6.1 = s + 29 := f6.1.trans n5
  have F7 : Hfr s7 := f7.hfr F6 (fun y hy => by rcases hy with z | z <;> omega)
  have n7 : s7.1 = s + 29 := f7.1.trans n6
  have H7 : HiR s7 s (s + 1) (ea2 s) 1 := H3.mono (fun d _ hd => (old7 s (by omega)).trans hd) (fun d _ hd => (old7 (s + 1) (by omega)).trans hd)
  obtain ⟨s8, i8, H8, f8⟩ := Hi_keep (x := s + 22) H7 (by decide) e2a ⟨_, W7.1⟩
  have up8 : ∀ a, a ≠ s → a ≠ s + 1 → s8.2.2 a = s7.2.2 a := fun a h1 h2 => f8.2.2 a (fun z => by rcases z with z | z <;> omega)
  have F8 : Hfr s8 := f8.hfr F7 (fun y hy => by rcases hy with z | z <;> omega)
  have W8a := keepW (h := s8) (fun a h1 h2 => ((up8 a (by omega) (by omega)).trans (old7 a h2)).trans (up3 a (by omega) (by omega)))
  have W8 : EvW s8 (ea2 s) (s + 22) (s + 23) (s + 24) (s + 25) (s + 26) (s + 27) (s + 28) 2 1 0 0 (bitN 1) 0 0 q2 1 g1 (fFn 1 0 2 1 g1) := by
    obtain ⟨c0, ⟨c1, A1⟩, ⟨c2, A2⟩, ⟨c3, A3⟩, d⟩ := W7
    have hh : ∀ a, s + 22 ≤ a → s8.2.2 a = s7.2.2 a := fun a ha => up8 a (by omega) (by omega)
    exact ⟨(hh _ (by omega)).trans c0, ⟨(hh _ (by omega)).trans c1, A1.mono (fun d _ hd => (hh _ (by omega)).trans hd)⟩, ⟨(hh _ (by omega)).trans c2, A2.mono (fun d _ hd => (hh _ (by omega)).trans hd)⟩, ⟨(hh _ (by omega)).trans c3, A3.mono (fun d _ hd => (hh _ (by omega)).trans hd)⟩, d⟩
  -- the room's own cell
  have rm2 : s2.2.2 rm = some (rmx (some s) (some (s + 2)) (some (s + 10)) (some (s + 11)) (some (s + 13)) 0) := (old2 rm (by omega)).trans cr
  have rm7 : s7.2.2 rm = some (rmx (some s) (some (s + 2)) (some (s + 10)) (some (s + 11)) (some (s + 13)) 0) := ((old7 rm (by omega)).trans (up3 rm (by omega) (by omega))).trans rm2
  have ga2 : gfA s2 (some rm) 0 0 = some (some s) := gfA_o rm2 rfl
  have ga7 : gfA s7 (some rm) 0 0 = some (some s) := gfA_o rm7 rfl
  have bt : cJ rF nRm_bit [sI (1 : Int32)] (mkO s3 1) = some (bitN 1, mkO s3 1) := Rm_bit 1 _
  refine ⟨s8, ?_, W8a, W8, H8, fun a h1 h2 h3 => (((up8 a h2 h3).trans (old7 a (by omega))).trans (up3 a h2 h3)).trans (old2 a h1), F8, f8.1.trans n7, ?_⟩
  · have t1 : cV rF nEv_init [sA (some (Prod.fst σ)), sI (1 : Int32), sI (0 : Int32), sI (0 : Int32), sI (0 : Int32), sJ (0 : Int64)] (mkO σ 1) = some s1 := i1
    have hx1 : (some (Prod.fst σ) : Option Nat) = some (s + 15) := congrArg some hn
    have hx3 : (some (Prod.fst s3) : Option Nat) = some (s + 22) := congrArg some n3
    have t4 : cV rF nEv_init [sA (some (Prod.fst s3)), sI (2 : Int32), sI (1 : Int32), sI (0 : Int32), sI (0 : Int32), sJ (bitN 1)] (mkO s3 1) = some s4 := i4
    have ss4 : ∀ l, rcv s4 (sA (some (s + 23)) :: l) 6 = some (s + 23) := fun l => rcv_o v1
    have f5' : gfA s4 (some (s + 22)) 1 5 = some (some (s + 23)) := gfA_o v0 rfl
    have f7' : gfA s4 (some (s + 15)) 1 7 = some (some (s + 20)) := W4a.f7
    simp only [rc0, t1, Option.bind_some]
    rw [hx1]
    simp only [W1.rc, i2, ga2, H2.rc, i3, bt, rc3, t4, Option.bind_some]
    rw [hx3]
    simp only [f5', f7', ss4, i5, W5.rc, i6, W6.rc, i7, ga7, H7.rc, i8, Option.bind_some]
  · have z8 := f8.2.1
    have z7 := f7.2.1
    have z6 := f6.2.1
    have z3 := f3.2.1
    have z2 := f2.2.1
    omega
