/-! From a run of our machine over the law to the law's walk. -/
theorem kx_start (ok : TbOk) {args : Array Value} {s : State} (hts : ∀ w ∈ lw_tbl, w.before args s = true) (hn : ∀ q ∈ nwl, nlw q ∈ lw_tbl) (ho : ∀ C ∈ ovs, Cond.arrayOver (.object C) ∈ lw_tbl) (hp : ∀ k, k < 3 → Cond.arrayClass (aty k) ∈ lw_tbl) (hq : ∀ k, 3 ≤ k → k < 6 → ∃ C ∈ ovs, aty k = .object C) : ∃ (dA : Nat → ClassId) (D : va_G), Kx dA D s := by
  have hg : ∀ w ∈ gws, w.before args s = true := fun w h => hts w (List.mem_filter.mp h).1
  have h1 : ∀ c : Nat, ∃ x : ClassId × (Nat → Nat), ∀ r, scl[c]? = some r → u_Kn s r.1 r.2.1 r.2.2 x.1 x.2 := by
    intro c
    cases e : scl[c]? with
    | none => exact ⟨((0 : Nat), fun _ => 0), fun r h => by cases h⟩
    | some r =>
      obtain ⟨hin, -, -, -, hinst, -⟩ := ok.2.1 c r e
      obtain ⟨cC, iS, h⟩ := u_known hg hin (hg _ hinst)
      exact ⟨(cC, iS), fun r' h' => by cases h'; exact h⟩
  have h2 : ∀ k : Nat, ∃ cA : ClassId, k < 6 → ArrOfT s cA (aty k) ∧ va_RA s cA (aty k) := by
    intro k
    by_cases h3 : k < 3
    · obtain ⟨cA, kA, comp, f1, f2, f3⟩ := Cond.arrayClass_spec (hts _ (hp k h3))
      refine ⟨cA, fun _ => ⟨fun n z => ⟨(fun q h => by cases h), kA, f2, comp, f3⟩, ?_⟩⟩
      match k, h3, f1 with
      | 0, _, f1 => exact f1
      | 1, _, f1 => exact f1
      | 2, _, f1 => exact f1
    · by_cases h6 : k < 6
      · obtain ⟨C, hC, hk⟩ := hq k (by omega) h6
        obtain ⟨comp, cc, kk, f1, f2, f3, f4, f5⟩ := Cond.arrayOver_spec (hts _ (ho C hC))
        refine ⟨cc, fun _ => ⟨?_, ?_⟩⟩
        · rw [hk]; exact fun n z => ⟨(fun q h => by cases h), kk, f3, comp, f4⟩
        · rw [hk]; exact ⟨kk, comp, f3, f4, f1, f5⟩
      · exact ⟨(0 : Nat), fun h => absurd h h6⟩
  refine ⟨fun k => Classical.choose (h2 k), (fun c => (Classical.choose (h1 c)).1, fun c => (Classical.choose (h1 c)).2), ⟨fun c r hr => Classical.choose_spec (h1 c) r hr, fun k q hk => ?_⟩, fun q hq => ?_, fun C hC => va_AO.of (hts _ (ho C hC))⟩
  · have hk6 : k < 6 := by
      have := (List.getElem?_eq_some_iff.mp hk).1
      simpa [tys] using this
    rw [tys_at _ hk6] at hk
    cases hk
    exact Classical.choose_spec (h2 k) hk6
  · exact va_Nw.of rfl (hts _ (hn q hq))
def σst (sz b L : Nat) (xs : Nat → Int32) : Hp := (sz, 0, fun a => if a = b then some (.inl (99, L, .inl xs)) else none)
theorem nst_in : ∀ q ∈ nwl, nlw q ∈ lw_tbl := by
  intro q hq
  simp only [nwl, List.mem_cons, List.not_mem_nil, or_false] at hq
  rcases hq with rfl | rfl | rfl | rfl | rfl | rfl | rfl | rfl | rfl | rfl | rfl
  · exact List.mem_of_getElem? (i := 79) (by decide +kernel)
  · exact List.mem_of_getElem? (i := 102) (by decide +kernel)
  · exact List.mem_of_getElem? (i := 138) (by decide +kernel)
  · exact List.mem_of_getElem? (i := 153) (by decide +kernel)
  · exact List.mem_of_getElem? (i := 161) (by decide +kernel)
  · exact List.mem_of_getElem? (i := 260) (by decide +kernel)
  · exact List.mem_of_getElem? (i := 323) (by decide +kernel)
  · exact List.mem_of_getElem? (i := 362) (by decide +kernel)
  · exact List.mem_of_getElem? (i := 410) (by decide +kernel)
  · exact List.mem_of_getElem? (i := 478) (by decide +kernel)
  · exact List.mem_of_getElem? (i := 527) (by decide +kernel)
theorem ovs_in : ∀ C ∈ ovs, Cond.arrayOver (.object C) ∈ lw_tbl := by
  intro C hC
  simp only [ovs, List.mem_cons, List.not_mem_nil, or_false] at hC
  rcases hC with rfl | rfl | rfl
  · exact List.mem_of_getElem? (i := 84) (by decide +kernel)
  · exact List.mem_of_getElem? (i := 143) (by decide +kernel)
  · exact List.mem_of_getElem? (i := 135) (by decide +kernel)
theorem pri_in : ∀ k, k < 3 → Cond.arrayClass (aty k) ∈ lw_tbl := by
  intro k hk
  match k, hk with
  | 0, _ => exact List.mem_of_getElem? (i := 133) (by decide +kernel)
  | 1, _ => exact List.mem_of_getElem? (i := 720) (by decide +kernel)
  | 2, _ => exact List.mem_of_getElem? (i := 113) (by decide +kernel)
  | j + 3, hk => exact absurd hk (by omega)
theorem obj_in : ∀ k, 3 ≤ k → k < 6 → ∃ C ∈ ovs, aty k = .object C := by
  intro k h3 h6
  match k, h3, h6 with
  | 3, _, _ => exact ⟨_, List.mem_of_getElem? (i := 0) rfl, rfl⟩
  | 4, _, _ => exact ⟨_, List.mem_of_getElem? (i := 1) rfl, rfl⟩
  | 5, _, _ => exact ⟨_, List.mem_of_getElem? (i := 2) rfl, rfl⟩
  | j + 6, _, h6 => exact absurd h6 (by omega)
/-- THE LAW out of a run of our machine that answers 1 within the room -/
theorem law_open {p : Program} {e : Env} {s : State} {m : MethodId} {below : List Frame} {meth : Method} {c : Code} (l : Launch) {b L : Nat} {xs : Nat → Int32} (C0 : lw_At p s m meth c b L xs) {σ' : Hp} (hr : rF (ent nLa_law [sA (some b)] (σst s.heap.size b L xs)) = some (some (sI 1), σ')) (h1 : σ'.1 ≤ s.heap.size + 662804) (h2 : σ'.2.1 ≤ 7113836) :
    W p l e room_1 s m #[Value.ref b] below meth c s.heap [] 0 0 (lw_Z below #[Value.ref b] s) (entryFrame m ([Value.ref b] : List Value).toArray 4) := by
  obtain ⟨hx, hb, hrt, hml, hown, hts, hX, hbl, hlocks, hgv⟩ := C0
  obtain ⟨dA, D, hK⟩ := kx_start tb_ok hts nst_in ovs_in pri_in obj_in
  obtain ⟨n, hn⟩ := (rF_iff _ _).mp hr
  have hl := lv_entry ([.ref b]) (n := 4) (Nat.le_of_ble_eq_true rfl)
  rw [lg_entry_eq]
  generalize (lg_sl ([.ref b]) ++ List.replicate (4 - (lg_sl ([.ref b])).length) Slot.unset).toArray = ls at hl ⊢
  have hC : Cx dA D p room_1 s m #[Value.ref b] meth c (mtd nLa_law) :=
    ⟨hx, hb, hml, hrt, hlocks, hown, (fun h => by cases h), fun w h => hts w (List.mem_filter.mp h).1, hK, Nat.le_of_ble_eq_true rfl, Nat.le_of_ble_eq_true rfl⟩
  refine rnn_sim tb_ok l dA D n p e room_1 s m #[Value.ref b] below meth c (lw_Z below #[Value.ref b] s) (σst s.heap.size b L xs) (mtd nLa_law) (some (sI 1), σ') cd141 rfl hC ⟨?_, ?_⟩ ?_ 0 (sargs 0 [sA (some b)]) [] (σst s.heap.size b L xs) hn s.heap [] 0 0 ls hl ⟨⟨rfl, fun a d hd => ?_⟩, va_S.rf, fun a d hd hw => ?_, Nat.zero_add _, Nat.zero_add _, rfl⟩
  · show σ'.1 ≤ 662804 + s.heap.size
    omega
  · show σ'.2.1 ≤ 7113836 + 0
    omega
  · intro i H locs cells slots pc ls hI hd hk
    obtain ⟨i1, i2, i3, i4, i5, i6⟩ := hI
    have i4' : cells + s.heap.size = σ'.1 := i4
    have i5' : slots + 0 = σ'.2.1 := i5
    have hir : i = .ireturn := by
      rcases hk with ⟨h, -⟩ | ⟨x, -, h, -⟩ | ⟨x, h, -⟩ | ⟨x, h, -⟩
      · cases h
      · exact h
      · cases h
      · cases h
    subst hir
    refine va_forget (fun q hq => ?_) (W.widen (k := 662804) (n := 7113836) (by omega) (by omega) (lw_ret hx hb hrt hlocks hd))
    rcases i2.2.2 q hq with ⟨d, h3, h4⟩ | h3
    · exfalso
      have h3' : (if q.base = b then some (.inl (99, L, .inl xs)) else none) = some d := h3
      by_cases e0 : q.base = b
      · rw [if_pos e0] at h3'
        cases h3'
        cases h4
      · rw [if_neg e0] at h3'
        cases h3'
    · exact h3
  · have hd' : (if a = b then some (.inl (99, L, .inl xs)) else none) = some d := hd
    by_cases e0 : a = b
    · rw [if_pos e0] at hd'
      cases hd'
      subst e0
      exact Or.inl ⟨rfl, xs, rfl, hX⟩
    · rw [if_neg e0] at hd'
      cases hd'
  · have hd' : (if a = b then some (.inl (99, L, .inl xs)) else none) = some d := hd
    by_cases e0 : a = b
    · rw [if_pos e0] at hd'
      cases hd'
      cases hw
    · rw [if_neg e0] at hd'
      cases hd'
