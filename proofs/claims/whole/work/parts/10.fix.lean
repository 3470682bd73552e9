/-! The machine without fuel: rF, its equation, and the unrolling of a stretch up to named places. -/
theorem ev_mono {k k' : Fr → Option Rs} (h : ∀ f r, k f = some r → k' f = some r) (a : Option Act) {r : Rs} (hr : ev k a = some r) : ev k' a = some r := by
  match a, hr with
  | some (.inl r0), hr => exact hr
  | some (.inr (.inl g)), hr => exact h _ _ hr
  | some (.inr (.inr q)), hr =>
    replace hr := Option.bind_eq_some_iff.mp hr
    obtain ⟨r1, h1, h2⟩ := hr
    replace h2 := Option.bind_eq_some_iff.mp h2
    obtain ⟨g, h3, h4⟩ := h2
    exact Option.bind_eq_some_iff.mpr ⟨r1, h _ _ h1, Option.bind_eq_some_iff.mpr ⟨g, h3, h _ _ h4⟩⟩
theorem rnn_succ : ∀ (n : Nat) (f : Fr) (r : Rs), rnn n f = some r → rnn (n + 1) f = some r := by
  intro n
  induction n with
  | zero => intro f r h; cases h
  | succ n ih =>
    intro f r h
    obtain ⟨a, ha0, -⟩ := stp_act f
    have ha : ∀ k, stp k f = ev k a := ha0
    have h : stp (rnn n) f = some r := h
    show stp (rnn (n + 1)) f = some r
    rw [ha] at h ⊢
    exact ev_mono ih a h
theorem rnn_add (n : Nat) (f : Fr) (r : Rs) (h : rnn n f = some r) : ∀ j : Nat, rnn (n + j) f = some r := by
  intro j
  induction j with
  | zero => exact h
  | succ j ih => exact rnn_succ _ _ _ ih
theorem rnn_det {n n' : Nat} {f : Fr} {r r' : Rs} (h : rnn n f = some r) (h' : rnn n' f = some r') : r = r' := by
  have a := rnn_add n f r h n'
  have b := rnn_add n' f r' h' n
  rw [Nat.add_comm] at b
  exact Option.some.inj (a.symm.trans b)
noncomputable def rF (f : Fr) : Option Rs := @dite _ (∃ r n, rnn n f = some r) (Classical.propDecidable _) (fun h => some (Classical.choose h)) (fun _ => none)
theorem rF_iff (f : Fr) (r : Rs) : rF f = some r ↔ ∃ n, rnn n f = some r := by
  unfold rF
  by_cases h : ∃ r n, rnn n f = some r
  · rw [dif_pos h]
    obtain ⟨n, hn⟩ := Classical.choose_spec h
    constructor
    · intro q
      cases q
      exact ⟨n, hn⟩
    · rintro ⟨n', hn'⟩
      exact congrArg some (rnn_det hn hn')
  · rw [dif_neg h]
    constructor
    · intro q; cases q
    · rintro ⟨n', hn'⟩
      exact absurd ⟨r, n', hn'⟩ h
theorem rF_eq (f : Fr) : rF f = stp rF f := by
  obtain ⟨a, ha0, -⟩ := stp_act f
  have ha : ∀ k, stp k f = ev k a := ha0
  have key : ∀ r, rF f = some r ↔ stp rF f = some r := by
    intro r
    rw [ha rF]
    constructor
    · intro h
      obtain ⟨n, hn⟩ := (rF_iff f r).mp h
      cases n with
      | zero => cases hn
      | succ n =>
        have hn : stp (rnn n) f = some r := hn
        rw [ha] at hn
        exact ev_mono (fun g r' h' => (rF_iff g r').mpr ⟨n, h'⟩) a hn
    · intro h
      rw [rF_iff]
      match a, ha, h with
      | some (.inl r0), ha, h => exact ⟨1, (ha _).trans h⟩
      | some (.inr (.inl g)), ha, h =>
        obtain ⟨n, hn⟩ := (rF_iff g r).mp h
        exact ⟨n + 1, (ha _).trans hn⟩
      | some (.inr (.inr q)), ha, h =>
        replace h := Option.bind_eq_some_iff.mp h
        obtain ⟨r1, h1, h2⟩ := h
        replace h2 := Option.bind_eq_some_iff.mp h2
        obtain ⟨g, h3, h4⟩ := h2
        obtain ⟨n1, hn1⟩ := (rF_iff _ _).mp h1
        obtain ⟨n2, hn2⟩ := (rF_iff _ _).mp h4
        refine ⟨n1 + n2 + 1, (ha _).trans ?_⟩
        have e2 := rnn_add n2 _ _ hn2 n1
        rw [Nat.add_comm] at e2
        exact Option.bind_eq_some_iff.mpr ⟨r1, rnn_add n1 _ _ hn1 n2, Option.bind_eq_some_iff.mpr ⟨g, h3, e2⟩⟩
  cases e1 : rF f with
  | some r => exact ((key r).mp e1).symm
  | none =>
    cases e2 : stp rF f with
    | none => rfl
    | some r => rw [(key r).mpr e2] at e1; cases e1
/-- a stretch: steps until a place of S (0, the start of every method, belongs to S) -/
noncomputable def blk (S : Nat → Bool) : Nat → Fr → Option Rs
  | 0, f => rF f
  | n + 1, f => stp (fun g => bif S g.2.1 then rF g else blk S n g) f
theorem blk_eq (S : Nat → Bool) : ∀ (n : Nat) (f : Fr), rF f = blk S n f := by
  intro n
  induction n with
  | zero => intro f; rfl
  | succ n ih =>
    intro f
    rw [rF_eq]
    show stp rF f = stp (fun g => bif S g.2.1 then rF g else blk S n g) f
    congr 1
    funext g
    cases S g.2.1
    · exact ih g
    · rfl
