/-! What reads or writes the heap, makes, calls, ends: each against the real machine. -/
theorem rng_I {σ : Hp} {rr : Option Nat} {i : Int32} {v : Int32} (h : alI σ rr i = some v) : ∃ (a k n : Nat) (f : Nat → Int32), rr = some a ∧ σ.2.2 a = some (.inl (k, n, .inl f)) ∧ (k = 0 ∨ k = 99) ∧ ¬ (i < 0 ∨ n ≤ i.toNatClampNeg) ∧ v = f i.toNatClampNeg := by
  unfold alI at h
  replace h := Option.bind_eq_some_iff.mp h
  obtain ⟨⟨a, k, n, z⟩, hq, h⟩ := h
  obtain ⟨e1, e2⟩ := ar_inv hq
  rcases z with f | f
  · replace h := cond_some h
    obtain ⟨hb, h⟩ := h
    cases h
    simp only [Bool.and_eq_true, Bool.or_eq_true] at hb
    exact ⟨a, k, n, f, e1, e2, hb.1.imp beq_eq' beq_eq', inb_inv hb.2, rfl⟩
  · cases h
theorem rng_Z {σ : Hp} {rr : Option Nat} {i : Int32} {v : Int32} (h : alZ σ rr i = some v) : ∃ (a n : Nat) (f : Nat → Int32), rr = some a ∧ σ.2.2 a = some (.inl (2, n, .inl f)) ∧ ¬ (i < 0 ∨ n ≤ i.toNatClampNeg) ∧ v = f i.toNatClampNeg := by
  unfold alZ at h
  replace h := Option.bind_eq_some_iff.mp h
  obtain ⟨⟨a, k, n, z⟩, hq, h⟩ := h
  obtain ⟨e1, e2⟩ := ar_inv hq
  rcases z with f | f
  · replace h := cond_some h
    obtain ⟨hb, h⟩ := h
    cases h
    simp only [Bool.and_eq_true] at hb
    have e := beq_eq' hb.1
    subst e
    exact ⟨a, n, f, e1, e2, inb_inv hb.2, rfl⟩
  · cases h
theorem rng_J {σ : Hp} {rr : Option Nat} {i : Int32} {v : Int64} (h : alJ σ rr i = some v) : ∃ (a n : Nat) (f : Nat → Int64), rr = some a ∧ σ.2.2 a = some (.inl (1, n, .inr (.inl f))) ∧ ¬ (i < 0 ∨ n ≤ i.toNatClampNeg) ∧ v = f i.toNatClampNeg := by
  unfold alJ at h
  replace h := Option.bind_eq_some_iff.mp h
  obtain ⟨⟨a, k, n, z⟩, hq, h⟩ := h
  obtain ⟨e1, e2⟩ := ar_inv hq
  rcases z with f | f | f
  · cases h
  · replace h := cond_some h
    obtain ⟨hb, h⟩ := h
    cases h
    simp only [Bool.and_eq_true] at hb
    have e := beq_eq' hb.1
    subst e
    exact ⟨a, n, f, e1, e2, inb_inv hb.2, rfl⟩
  · cases h
theorem rng_A {σ : Hp} {rr : Option Nat} {i : Int32} {v : Option Nat} (h : alA σ rr i = some v) : ∃ (a k n ci : Nat) (f : Nat → Option Nat), rr = some a ∧ σ.2.2 a = some (.inl (k, n, .inr (.inr f))) ∧ aec k = some ci ∧ ¬ (i < 0 ∨ n ≤ i.toNatClampNeg) ∧ v = f i.toNatClampNeg := by
  unfold alA at h
  replace h := Option.bind_eq_some_iff.mp h
  obtain ⟨⟨a, k, n, z⟩, hq, h⟩ := h
  obtain ⟨e1, e2⟩ := ar_inv hq
  rcases z with f | f | f
  · cases h
  · cases h
  · replace h := cond_some h
    obtain ⟨hb, h⟩ := h
    cases h
    simp only [Bool.and_eq_true] at hb
    obtain ⟨ci, hci⟩ := Option.isSome_iff_exists.mp hb.1
    exact ⟨a, k, n, ci, f, e1, e2, hci, inb_inv hb.2, rfl⟩
theorem rns_I {σ σ' : Hp} {rr : Option Nat} {i x : Int32} (h : asI σ rr i x = some σ') : ∃ (a n : Nat) (f : Nat → Int32), rr = some a ∧ σ.2.2 a = some (.inl (0, n, .inl f)) ∧ ¬ (i < 0 ∨ n ≤ i.toNatClampNeg) ∧ σ' = hput σ a (.inl (0, n, .inl (va_up f i.toNatClampNeg x))) := by
  unfold asI at h
  replace h := Option.bind_eq_some_iff.mp h
  obtain ⟨⟨a, k, n, z⟩, hq, h⟩ := h
  obtain ⟨e1, e2⟩ := ar_inv hq
  rcases z with f | f
  · replace h := cond_some h
    obtain ⟨hb, h⟩ := h
    cases h
    simp only [Bool.and_eq_true] at hb
    have e := beq_eq' hb.1
    subst e
    exact ⟨a, n, f, e1, e2, inb_inv hb.2, rfl⟩
  · cases h
theorem rns_Z {σ σ' : Hp} {rr : Option Nat} {i x : Int32} (h : asZ σ rr i x = some σ') : ∃ (a n : Nat) (f : Nat → Int32), rr = some a ∧ σ.2.2 a = some (.inl (2, n, .inl f)) ∧ ¬ (i < 0 ∨ n ≤ i.toNatClampNeg) ∧ (x = 0 ∨ x = 1) ∧ σ' = hput σ a (.inl (2, n, .inl (va_up f i.toNatClampNeg x))) := by
  unfold asZ at h
  replace h := Option.bind_eq_some_iff.mp h
  obtain ⟨⟨a, k, n, z⟩, hq, h⟩ := h
  obtain ⟨e1, e2⟩ := ar_inv hq
  rcases z with f | f
  · replace h := cond_some h
    obtain ⟨hb, h⟩ := h
    replace h := ite_some h
    obtain ⟨hz, h⟩ := h
    cases h
    simp only [Bool.and_eq_true] at hb
    have e := beq_eq' hb.1
    subst e
    exact ⟨a, n, f, e1, e2, inb_inv hb.2, hz, rfl⟩
  · cases h
theorem rns_J {σ σ' : Hp} {rr : Option Nat} {i : Int32} {x : Int64} (h : asJ σ rr i x = some σ') : ∃ (a n : Nat) (f : Nat → Int64), rr = some a ∧ σ.2.2 a = some (.inl (1, n, .inr (.inl f))) ∧ ¬ (i < 0 ∨ n ≤ i.toNatClampNeg) ∧ σ' = hput σ a (.inl (1, n, .inr (.inl (va_up f i.toNatClampNeg x)))) := by
  unfold asJ at h
  replace h := Option.bind_eq_some_iff.mp h
  obtain ⟨⟨a, k, n, z⟩, hq, h⟩ := h
  obtain ⟨e1, e2⟩ := ar_inv hq
  rcases z with f | f | f
  · cases h
  · replace h := cond_some h
    obtain ⟨hb, h⟩ := h
    cases h
    simp only [Bool.and_eq_true] at hb
    have e := beq_eq' hb.1
    subst e
    exact ⟨a, n, f, e1, e2, inb_inv hb.2, rfl⟩
  · cases h
theorem rns_A {σ σ' : Hp} {rr : Option Nat} {i : Int32} {x : Option Nat} (h : asA σ rr i x = some σ') : ∃ (a k n ci : Nat) (f : Nat → Option Nat), rr = some a ∧ σ.2.2 a = some (.inl (k, n, .inr (.inr f))) ∧ aec k = some ci ∧ ¬ (i < 0 ∨ n ≤ i.toNatClampNeg) ∧ rok σ x ci = true ∧ σ' = hput σ a (.inl (k, n, .inr (.inr (va_up f i.toNatClampNeg x)))) := by
  unfold asA at h
  replace h := Option.bind_eq_some_iff.mp h
  obtain ⟨⟨a, k, n, z⟩, hq, h⟩ := h
  obtain ⟨e1, e2⟩ := ar_inv hq
  rcases z with f | f | f
  · cases h
  · cases h
  · replace h := Option.bind_eq_some_iff.mp h
    obtain ⟨ci, hci, h⟩ := h
    replace h := cond_some h
    obtain ⟨hb, h⟩ := h
    cases h
    simp only [Bool.and_eq_true] at hb
    exact ⟨a, k, n, ci, f, e1, e2, hci, inb_inv hb.1, hb.2, rfl⟩
theorem upV_I (f : Nat → Int32) (k : Nat) (x : Int32) : updV (acv (.inl f)) k (.int x) = acv (.inl (va_up f k x)) := by
  funext q
  by_cases hq : q = k
  · simp [updV, va_up, acv, hq]
  · simp [updV, va_up, acv, hq]
theorem upV_J (f : Nat → Int64) (k : Nat) (x : Int64) : updV (acv (.inr (.inl f))) k (.long x) = acv (.inr (.inl (va_up f k x))) := by
  funext q
  by_cases hq : q = k
  · simp [updV, va_up, acv, hq]
  · simp [updV, va_up, acv, hq]
theorem upV_A (f : Nat → Option Nat) (k : Nat) (x : Option Nat) : updV (acv (.inr (.inr f))) k (va_rf x) = acv (.inr (.inr (va_up f k x))) := by
  funext q
  by_cases hq : q = k
  · simp [updV, va_up, acv, hq]
  · simp [updV, va_up, acv, hq]
theorem c1_arr {dA : Nat → ClassId} {D : va_G} {U : State} {H : Heap} {a k n : Nat} {f : Ac} (h : c1 dA D U H a (.inl (k, n, f))) (hk : k ≠ 99) : k < 6 ∧ H[a]? = some (arrV (dA k) n (acv f)) := by
  rcases h with ⟨h1, -⟩ | h
  · exact absurd h1 hk
  · exact h
theorem wr_arr {k n : Nat} {f : Ac} (hk : k ≠ 99) : wr (.inl (k, n, f)) = true := by
  show (!(Nat.beq k 99)) = true
  cases e : Nat.beq k 99 with
  | true => exact absurd (beq_eq' e) hk
  | false => rfl
section XSIM
variable {p : Program} {l : Launch} {e : Env} {R : Room} {s : State} {m : MethodId} {args : Array Value} {below : List Frame} {meth : Method} {c : Code} {Q : State → Prop} {dA : Nat → ClassId} {D : va_G} {σ0 σ σ' : Hp} {mt : Mt}
variable {H : Heap} {locs : List Loc} {cells slots pc x : Nat} {ls : Array Slot} {rest : List Value} {rr : Option Nat} {v : sv} {fe : Fe} {i : Int32}
theorem get_sim (ok : TbOk) (hC : Cx dA D p R s m args meth c mt) (hd : decode (byt (mnum mt)) pc = .ok (.getfield x, 3)) (hfe : fle (mown mt) x = some fe) (hI : Iv dA D s σ0 σ H locs cells slots) (hg : gf σ rr fe.1 fe.2.1 = some v)
    (kk : W p l e R s m args below meth c H locs cells slots Q (F0 m (pc + 3) ls (sval v :: rest))) : W p l e R s m args below meth c H locs cells slots Q (F0 m pc ls (va_rf rr :: rest)) := by
  obtain ⟨hx, hb, -, -, -, hown, -, hts, hK, -⟩ := hC
  obtain ⟨r, hr, hk, hdc, -, hlink, -, -⟩ := ok.1 _ _ _ hfe
  obtain ⟨hin, -⟩ := ok.2.1 _ _ hr
  unfold gf at hg
  replace hg := Option.bind_eq_some_iff.mp hg
  obtain ⟨q, hq, hv⟩ := hg
  obtain ⟨e1, e2⟩ := ob_inv hq
  obtain ⟨r', hr', hO, hlen⟩ := hI.1.2 _ _ e2
  cases hr.symm.trans hr'
  subst e1
  exact va_get (ws := [(q.1, .inr (fe.1, q.2.map sval))]) (C := r.1) (T := r.2.1) (N := r.2.2) (ref := (r.2.1 fe.2.1).1) hx hb hts hin hown hK.1 (vP1 ⟨r, hr, hO⟩) 0 rfl hr fe.2.1 hk (hts _ hlink) (fun _ h => h) (by rw [List.getElem?_map, hv]; rfl) hd kk
set_option maxHeartbeats 1000000 in
theorem put_sim (ok : TbOk) (hC : Cx dA D p R s m args meth c mt) (hd : decode (byt (mnum mt)) pc = .ok (.putfield x, 3)) (hfe : fle (mown mt) x = some fe) (hfin : (!fe.2.2.2.1 || (mini mt && Nat.beq (mown mt) fe.1)) = true) (hty : ∀ ty, kty fe.2.2.1 ty → narrow ty (sval v) = sval v ∧ fits ty (sval v) = true) (hI : Iv dA D s σ0 σ H locs cells slots) (hp : pf σ rr fe.1 fe.2.1 v = some σ')
    (kk : ∀ (H1 : Heap) (locs1 : List Loc), Iv dA D s σ0 σ' H1 locs1 cells slots → W p l e R s m args below meth c H1 locs1 cells slots Q (F0 m (pc + 3) ls rest)) : W p l e R s m args below meth c H locs cells slots Q (F0 m pc ls (sval v :: va_rf rr :: rest)) := by
  obtain ⟨hx, hb, -, -, -, hown, hini, hts, hK, -⟩ := hC
  obtain ⟨r, hr, hk, hdc, hnm, hlink, hfl, ty, hpd, hkt⟩ := ok.1 _ _ _ hfe
  obtain ⟨hn, hf⟩ := hty ty hkt
  obtain ⟨hin, ⟨ty0, hty0, -⟩, hnames, -⟩ := ok.2.1 _ _ hr
  unfold pf at hp
  replace hp := Option.bind_eq_some_iff.mp hp
  obtain ⟨q, hq, hs⟩ := hp
  cases hs
  obtain ⟨e1, e2⟩ := ob_inv hq
  subst e1
  obtain ⟨r', hr', hO, hlen⟩ := hI.1.2 _ _ e2
  cases hr.symm.trans hr'
  obtain ⟨cell, q1, q2, q3, q4⟩ := hO
  obtain ⟨hS, hfc, kC, hkC, hkind⟩ := hK.1.1 fe.1 r hr
  have hap := va_apart (own := cnm (mown mt)) (C := r.1) (T := r.2.1) (N := r.2.2) hts hin ty0 hty0 hnames hK.1 hr
  obtain ⟨cf, kf, fi, f, hi, hsl⟩ := hS fe.2.1 hk
  have hst := (u_facts hfc hkC (u_lays hts hin hk) hi).1
  have key : ∀ H' : Heap, H'[q.1]? = some (cell.setSlot f.slot (sval v)) → H'.size = H.size → (∀ z : Nat, z ≠ q.1 → H'[z]? = H[z]?) → W p l e R s m args below meth c H' (locs ++ [⟨q.1, f.slot⟩]) cells slots Q (F0 m (pc + 3) ls rest) := by
    intro H' g1 g2 g3
    rw [hsl] at g1 ⊢
    refine kk H' _ (hI.put g2 g3 ⟨r, hr, t_OB.to (V := updV (vp_V (q.2.map sval)) fe.2.1 (sval v)) ⟨_, g1, q2, q3, t_set q4 hap hk _⟩ (fun j _ => ?_), by simp [hlen]⟩ e2 rfl)
    rw [List.map_set]
    exact vp_updV_set (by rw [List.length_map, hlen]; exact hk) _ _
  have hlay := hts _ (hin _ (u_in_lay hk))
  unfold u_lay at hlay
  cases efin : fe.2.2.2.1 with
  | false =>
    rw [if_neg (by rw [hfl, efin]; decide)] at hlay
    have h6 := u_store hfc hkC hkind hlay hi hpd hn hf
    exact W.putK hx hb (f := f) ⟨hown, hts _ hlink, ⟨_, _, _, hi⟩, hst⟩ (by rw [q2]; exact h6) q1 q3 (by rw [hsl]; exact k2_hasslot (q4 _ hk)) rfl rfl hd key
  | true =>
    rw [if_pos (by rw [hfl, efin])] at hlay
    rw [efin] at hfin
    simp only [Bool.not_true, Bool.false_or, Bool.and_eq_true] at hfin
    have how := beq_eq' hfin.2
    have hcf : m.cls = cf := by
      obtain ⟨_, _, c', _, _, _, -, -, hf', -, -, -, hown2, -⟩ := Cond.laysFinal_spec hlay
      have e1 : c' = cf := by have := hi.symm.trans hf'; simp at this; exact this.1.symm
      rw [hdc, hnm efin, ← how] at hown2
      rw [← e1]; exact Option.some.inj (hown.symm.trans hown2)
    have h6 := u_fits hfc hkC hkind (Or.inr hlay) hi hpd hn hf
    exact W.putFinK hx hb hown (hts _ hlink) hi hst hcf (hini hfin.1) (by rw [q2]; exact h6) q1 q3 (by rw [hsl]; exact k2_hasslot (q4 _ hk)) rfl rfl hd key
theorem iald_sim (hC : Cx dA D p R s m args meth c mt) (hd : decode (byt (mnum mt)) pc = .ok (.iaload, 1)) (hI : Iv dA D s σ0 σ H locs cells slots) {y : Int32} (h : alI σ rr i = some y)
    (kk : W p l e R s m args below meth c H locs cells slots Q (F0 m (pc + 1) ls (.int y :: rest))) : W p l e R s m args below meth c H locs cells slots Q (F0 m pc ls (.int i :: va_rf rr :: rest)) := by
  obtain ⟨hx, hb, -, -, -, -, -, -, hK, -⟩ := hC
  obtain ⟨a, k, n, f, rfl, h1, hk, hin, rfl⟩ := rng_I h
  have hlt : i.toNatClampNeg < n := Nat.not_le.mp fun q => hin (Or.inr q)
  rcases hI.1.2 _ _ h1 with ⟨-, g, hg, scr, g1, g2, g3, g4, g5⟩ | ⟨h6, hc⟩
  · cases hg
    exact W.iald (v := .int (f i.toNatClampNeg)) hx hb g1 g2 g3 (by rw [g4]; exact hin) (g5 _ hlt) rfl rfl hd kk
  · have hk0 : k = 0 := by
      rcases hk with hk | hk
      · exact hk
      · dsimp only at h6; omega
    subst hk0
    exact W.iald (v := .int (f i.toNatClampNeg)) hx hb hc ((hK.1.2 0 _ (tys_at dA (by decide))).1 n (acv (.inl f))) (fun q => by cases q) (by show ¬ (i < 0 ∨ (arrV _ _ _).slots.size ≤ _); rw [arrV_size]; exact hin) (by show (arrV _ _ _).slots[_]? = _; rw [arrV_read _ _ hlt]; rfl) rfl rfl hd kk
theorem zald_sim (hC : Cx dA D p R s m args meth c mt) (hd : decode (byt (mnum mt)) pc = .ok (.baload, 1)) (hI : Iv dA D s σ0 σ H locs cells slots) {y : Int32} (h : alZ σ rr i = some y)
    (kk : W p l e R s m args below meth c H locs cells slots Q (F0 m (pc + 1) ls (.int y :: rest))) : W p l e R s m args below meth c H locs cells slots Q (F0 m pc ls (.int i :: va_rf rr :: rest)) := by
  obtain ⟨hx, hb, -, -, -, -, -, -, hK, -⟩ := hC
  obtain ⟨a, n, f, rfl, h1, hin, rfl⟩ := rng_Z h
  have hlt : i.toNatClampNeg < n := Nat.not_le.mp fun q => hin (Or.inr q)
  obtain ⟨-, hc⟩ := c1_arr (hI.1.2 _ _ h1) (by decide)
  exact W.zald (v := .int (f i.toNatClampNeg)) hx hb hc ((hK.1.2 2 _ (tys_at dA (by decide))).1 n (acv (.inl f))) (fun q => by cases q) (by show ¬ (i < 0 ∨ (arrV _ _ _).slots.size ≤ _); rw [arrV_size]; exact hin) (by show (arrV _ _ _).slots[_]? = _; rw [arrV_read _ _ hlt]; rfl) rfl rfl hd kk
theorem lald_sim (hC : Cx dA D p R s m args meth c mt) (hd : decode (byt (mnum mt)) pc = .ok (.laload, 1)) (hI : Iv dA D s σ0 σ H locs cells slots) {y : Int64} (h : alJ σ rr i = some y)
    (kk : W p l e R s m args below meth c H locs cells slots Q (F0 m (pc + 1) ls (.long y :: rest))) : W p l e R s m args below meth c H locs cells slots Q (F0 m pc ls (.int i :: va_rf rr :: rest)) := by
  obtain ⟨hx, hb, -, -, -, -, -, -, hK, -⟩ := hC
  obtain ⟨a, n, f, rfl, h1, hin, rfl⟩ := rng_J h
  have hlt : i.toNatClampNeg < n := Nat.not_le.mp fun q => hin (Or.inr q)
  obtain ⟨-, hc⟩ := c1_arr (hI.1.2 _ _ h1) (by decide)
  exact W.lald (v := .long (f i.toNatClampNeg)) hx hb hc ((hK.1.2 1 _ (tys_at dA (by decide))).1 n (acv (.inr (.inl f)))) (fun q => by cases q) (by show ¬ (i < 0 ∨ (arrV _ _ _).slots.size ≤ _); rw [arrV_size]; exact hin) (by show (arrV _ _ _).slots[_]? = _; rw [arrV_read _ _ hlt]; rfl) rfl rfl hd kk
theorem aald_sim (ok : TbOk) (hC : Cx dA D p R s m args meth c mt) (hd : decode (byt (mnum mt)) pc = .ok (.aaload, 1)) (hI : Iv dA D s σ0 σ H locs cells slots) {y : Option Nat} (h : alA σ rr i = some y)
    (kk : W p l e R s m args below meth c H locs cells slots Q (F0 m (pc + 1) ls (va_rf y :: rest))) : W p l e R s m args below meth c H locs cells slots Q (F0 m pc ls (.int i :: va_rf rr :: rest)) := by
  obtain ⟨hx, hb, -, -, -, -, -, -, hK, -⟩ := hC
  obtain ⟨a, k, n, ci, f, rfl, h1, hci, hin, rfl⟩ := rng_A h
  obtain ⟨hk6, hk3, C, r, hty, hr, rfl⟩ := ok.2.2.2.2.2.2.2.2.2.2 _ _ hci
  have hlt : i.toNatClampNeg < n := Nat.not_le.mp fun q => hin (Or.inr q)
  obtain ⟨-, hc⟩ := c1_arr (hI.1.2 _ _ h1) (by omega)
  have harr := (hK.1.2 k _ (tys_at dA hk6)).1 n (acv (.inr (.inr f)))
  exact W.aald (v := va_rf (f i.toNatClampNeg)) (ty := aty k) hx hb hc harr (by rw [hty]; rfl) (fun q => by cases q) (by show ¬ (i < 0 ∨ (arrV _ _ _).slots.size ≤ _); rw [arrV_size]; exact hin) (by show (arrV _ _ _).slots[_]? = _; rw [arrV_read _ _ hlt]; rfl) rfl rfl hd kk
theorem alen_sim (hC : Cx dA D p R s m args meth c mt) (hd : decode (byt (mnum mt)) pc = .ok (.arraylength, 1)) (hI : Iv dA D s σ0 σ H locs cells slots) {y : Int32} (h : alen σ rr = some y)
    (kk : W p l e R s m args below meth c H locs cells slots Q (F0 m (pc + 1) ls (.int y :: rest))) : W p l e R s m args below meth c H locs cells slots Q (F0 m pc ls (va_rf rr :: rest)) := by
  obtain ⟨hx, hb, -, -, -, -, -, -, hK, -⟩ := hC
  unfold alen at h
  replace h := Option.bind_eq_some_iff.mp h
  obtain ⟨⟨a, k, n, f⟩, hq, h⟩ := h
  obtain ⟨e1, e2⟩ := ar_inv hq
  replace h := cond_some h
  obtain ⟨-, h⟩ := h
  cases h
  subst e1
  rcases hI.1.2 _ _ e2 with ⟨-, g, hg, scr, g1, g2, g3, g4, g5⟩ | ⟨h6, hc⟩
  · exact W.alen (n := Int32.ofNat n) hx hb g1 g2 (by rw [g4] <;> rfl) rfl rfl hd kk
  · exact W.alen (n := Int32.ofNat n) hx hb hc ((hK.1.2 k _ (tys_at dA h6)).1 n (acv f)) (by rw [arrV_size] <;> rfl) rfl rfl hd kk
theorem iast_sim (hC : Cx dA D p R s m args meth c mt) (hd : decode (byt (mnum mt)) pc = .ok (.iastore, 1)) (hI : Iv dA D s σ0 σ H locs cells slots) {y : Int32} (h : asI σ rr i y = some σ')
    (kk : ∀ (H1 : Heap) (locs1 : List Loc), Iv dA D s σ0 σ' H1 locs1 cells slots → W p l e R s m args below meth c H1 locs1 cells slots Q (F0 m (pc + 1) ls rest)) : W p l e R s m args below meth c H locs cells slots Q (F0 m pc ls (.int y :: .int i :: va_rf rr :: rest)) := by
  obtain ⟨hx, hb, -, -, -, -, -, -, hK, -⟩ := hC
  obtain ⟨a, n, f, rfl, h1, hin, rfl⟩ := rns_I h
  obtain ⟨-, hc⟩ := c1_arr (hI.1.2 _ _ h1) (by decide)
  refine W.iast hx hb hc ((hK.1.2 0 _ (tys_at dA (by decide))).1 n (acv (.inl f))) (fun q => by cases q) (by show ¬ (i < 0 ∨ (arrV _ _ _).slots.size ≤ _); rw [arrV_size]; exact hin) rfl rfl hd fun H' g1 g2 g3 => ?_
  exact kk H' _ (hI.put g2 g3 (Or.inr ⟨Nat.le_of_ble_eq_true rfl, by rw [g1, arrV_store, upV_I]⟩) h1 (wr_arr (by decide)))
theorem zast_sim (hC : Cx dA D p R s m args meth c mt) (hd : decode (byt (mnum mt)) pc = .ok (.bastore, 1)) (hI : Iv dA D s σ0 σ H locs cells slots) {y : Int32} (h : asZ σ rr i y = some σ')
    (kk : ∀ (H1 : Heap) (locs1 : List Loc), Iv dA D s σ0 σ' H1 locs1 cells slots → W p l e R s m args below meth c H1 locs1 cells slots Q (F0 m (pc + 1) ls rest)) : W p l e R s m args below meth c H locs cells slots Q (F0 m pc ls (.int y :: .int i :: va_rf rr :: rest)) := by
  obtain ⟨hx, hb, -, -, -, -, -, -, hK, -⟩ := hC
  obtain ⟨a, n, f, rfl, h1, hin, hz, rfl⟩ := rns_Z h
  obtain ⟨-, hc⟩ := c1_arr (hI.1.2 _ _ h1) (by decide)
  have hnar : narrow .boolean (.int y) = .int y := by rcases hz with rfl | rfl <;> rfl
  refine W.zast hx hb hc ((hK.1.2 2 _ (tys_at dA (by decide))).1 n (acv (.inl f))) (fun q => by cases q) (by show ¬ (i < 0 ∨ (arrV _ _ _).slots.size ≤ _); rw [arrV_size]; exact hin) rfl rfl hd fun H' g1 g2 g3 => ?_
  exact kk H' _ (hI.put g2 g3 (Or.inr ⟨Nat.le_of_ble_eq_true rfl, by rw [g1, hnar, arrV_store, upV_I]⟩) h1 (wr_arr (by decide)))
theorem last_sim (hC : Cx dA D p R s m args meth c mt) (hd : decode (byt (mnum mt)) pc = .ok (.lastore, 1)) (hI : Iv dA D s σ0 σ H locs cells slots) {y : Int64} (h : asJ σ rr i y = some σ')
    (kk : ∀ (H1 : Heap) (locs1 : List Loc), Iv dA D s σ0 σ' H1 locs1 cells slots → W p l e R s m args below meth c H1 locs1 cells slots Q (F0 m (pc + 1) ls rest)) : W p l e R s m args below meth c H locs cells slots Q (F0 m pc ls (.long y :: .int i :: va_rf rr :: rest)) := by
  obtain ⟨hx, hb, -, -, -, -, -, -, hK, -⟩ := hC
  obtain ⟨a, n, f, rfl, h1, hin, rfl⟩ := rns_J h
  obtain ⟨-, hc⟩ := c1_arr (hI.1.2 _ _ h1) (by decide)
  refine W.last hx hb hc ((hK.1.2 1 _ (tys_at dA (by decide))).1 n (acv (.inr (.inl f)))) (fun q => by cases q) (by show ¬ (i < 0 ∨ (arrV _ _ _).slots.size ≤ _); rw [arrV_size]; exact hin) rfl rfl hd fun H' g1 g2 g3 => ?_
  exact kk H' _ (hI.put g2 g3 (Or.inr ⟨Nat.le_of_ble_eq_true rfl, by rw [g1, arrV_store, upV_J]⟩) h1 (wr_arr (by decide)))
theorem aast_sim (ok : TbOk) (hC : Cx dA D p R s m args meth c mt) (hd : decode (byt (mnum mt)) pc = .ok (.aastore, 1)) (hI : Iv dA D s σ0 σ H locs cells slots) {y : Option Nat} (h : asA σ rr i y = some σ')
    (kk : ∀ (H1 : Heap) (locs1 : List Loc), Iv dA D s σ0 σ' H1 locs1 cells slots → W p l e R s m args below meth c H1 locs1 cells slots Q (F0 m (pc + 1) ls rest)) : W p l e R s m args below meth c H locs cells slots Q (F0 m pc ls (va_rf y :: .int i :: va_rf rr :: rest)) := by
  obtain ⟨hx, hb, -, -, -, -, -, -, hK, -⟩ := hC
  obtain ⟨a, k, n, ci, f, rfl, h1, hci, hin, hro, rfl⟩ := rns_A h
  obtain ⟨hk6, hk3, C, r, hty, hr, rfl⟩ := ok.2.2.2.2.2.2.2.2.2.2 _ _ hci
  have hlt : i.toNatClampNeg < n := Nat.not_le.mp fun q => hin (Or.inr q)
  have h0 : ¬ i < 0 := fun q => hin (Or.inl q)
  obtain ⟨-, hc⟩ := c1_arr (hI.1.2 _ _ h1) (by omega)
  obtain ⟨harr, hRA⟩ := hK.1.2 k _ (tys_at dA hk6)
  dsimp only at harr hRA
  rw [hty] at harr hRA
  cases y with
  | none =>
    refine va_WaastN (C := r.1) hx hb hc (harr n (acv (.inr (.inr f)))) (fun h => by cases h) (by show ¬ (i < 0 ∨ (arrV _ _ _).slots.size ≤ _); rw [arrV_size]; exact hin) rfl rfl hd fun H' g1 g2 g3 => ?_
    refine kk H' _ (hI.put g2 g3 (Or.inr ⟨hk6, ?_⟩) h1 (wr_arr (by omega)))
    rw [g1, arrV_store, ← upV_A]
    rfl
  | some v =>
    obtain ⟨qv, hqv⟩ := Option.isSome_iff_exists.mp hro
    obtain ⟨e1, e2⟩ := ob_inv hqv
    cases e1
    obtain ⟨r', hr', ⟨cellV, g1, g2, g3, -⟩, -⟩ := hI.1.2 _ _ e2
    have hcls := (hK.1.1 ci r hr).2
    obtain ⟨kA, comp, k1, k2, k3, -⟩ := hRA
    have hcomp : comp = D.1 ci := Option.some.inj (k3.symm.trans hcls.1)
    subst hcomp
    obtain ⟨kC, hkC, -⟩ := hcls.2
    refine W.aast hx hb hc (fun q h => by cases h) (fun h => by cases h) k1 k2 rfl hkC ⟨h0, by show _ < (arrV _ _ _).slots.size; rw [arrV_size]; exact hlt⟩ g1 (fun q h => by rw [g3] at h; cases h) (by rw [g2]; exact hkC) (by rw [g2]; exact va_assign hcls) rfl rfl hd fun H' f1 f2 f3 => ?_
    refine kk H' _ (hI.put f2 f3 (Or.inr ⟨hk6, ?_⟩) h1 (wr_arr (by omega)))
    rw [f1, arrV_store, ← upV_A]
    rfl
theorem new_sim (ok : TbOk) (hC : Cx dA D p R s m args meth c mt) (hd : decode (byt (mnum mt)) pc = .ok (.new x, 3)) (hI : Iv dA D s σ0 σ H locs cells slots) {ci : Nat} (h : nwc (mown mt) x = some ci) (hr1 : cells + 1 ≤ R.cells) (hr2 : slots + (cdf ci).length ≤ R.slots)
    (kk : ∀ (H1 : Heap), Iv dA D s σ0 (mkO σ ci) H1 locs (cells + 1) (slots + (cdf ci).length) → W p l e R s m args below meth c H1 locs (cells + 1) (slots + (cdf ci).length) Q (F0 m (pc + 3) ls (.ref σ.1 :: rest))) : W p l e R s m args below meth c H locs cells slots Q (F0 m pc ls rest) := by
  obtain ⟨hx, hb, -, -, -, hown, -, hts, hK, -⟩ := hC
  obtain ⟨r, hr, hcl⟩ := ok.2.2.2.2.2.2.1 _ _ _ h
  obtain ⟨hin, ⟨ty, hty, hdf⟩, -, hlen, hinst, hini⟩ := ok.2.1 _ _ hr
  have hKn := hK.1.1 ci r hr
  rw [hlen] at hr2 kk
  refine W.newcK hx hb hown (hts _ hcl) (hts _ hinst) (hts _ hini) rfl hd hr1 hr2 hKn.2.1 hI.1.1 fun H1 kC hkC e1 z1 o1 => ?_
  refine kk H1 ?_
  have hz := hI.1.1
  have hq := hI.new (H1 := H1) (n := (cdf ci).length) (c := .inr (ci, cdf ci)) (by rw [z1, hz]) (fun q hq => o1 q (by rw [← hz]; exact hq)) ⟨r, hr, by rw [hz]; exact (u_born ty hts hin hKn hkC e1 hty).to hdf, hlen⟩
  rw [hlen] at hq
  unfold mkO
  rw [hlen]
  exact hq
theorem arz_cell (cA : ClassId) (n ak : Nat) (ty : FieldType) (h : ∀ j, acv (azc ak) j = defaultValue ty) : arrV cA n (fun _ => defaultValue ty) = arrV cA n (acv (azc ak)) := by
  congr 1
  funext j
  exact (h j).symm
theorem n1000 {n : Int32} (h0 : 0 ≤ n) (h1 : n ≤ 1000) : ¬ n < 0 ∧ n.toNatClampNeg ≤ 1000 := by
  rw [Int32.le_iff_toInt_le] at h0 h1
  have e0 : (0 : Int32).toInt = 0 := by decide
  have e1 : (1000 : Int32).toInt = 1000 := by decide
  rw [e0] at h0
  rw [e1] at h1
  refine ⟨fun q => ?_, ?_⟩
  · rw [Int32.lt_iff_toInt_lt, e0] at q
    omega
  · show n.toInt.toNat ≤ 1000
    omega
theorem newa_sim (ok : TbOk) (hC : Cx dA D p R s m args meth c mt) {at0 : ArrayType} (hd : decode (byt (mnum mt)) pc = .ok (.newarray at0, 2)) (hI : Iv dA D s σ0 σ H locs cells slots) {ak : Nat} (hak : akt at0 = some ak) {n : Int32} (h : mkA σ ak n = some σ') (hr1 : cells + 1 ≤ R.cells) (hr2 : slots + n.toNatClampNeg ≤ R.slots)
    (kk : ∀ (H1 : Heap), Iv dA D s σ0 σ' H1 locs (cells + 1) (slots + n.toNatClampNeg) → W p l e R s m args below meth c H1 locs (cells + 1) (slots + n.toNatClampNeg) Q (F0 m (pc + 2) ls (.ref σ.1 :: rest))) : W p l e R s m args below meth c H locs cells slots Q (F0 m pc ls (.int n :: rest)) := by
  obtain ⟨hx, hb, -, -, -, -, -, hts, hK, -⟩ := hC
  obtain ⟨hak3, hty, hw⟩ := ok.2.2.2.2.2.2.2.2.2.1 _ _ hak
  replace h := ite_some h
  obtain ⟨⟨n0, n1⟩, h⟩ := h
  cases h
  obtain ⟨g0, g1⟩ := n1000 n0 n1
  have hRA := (hK.1.2 ak _ (tys_at dA (show ak < 6 by omega))).2
  dsimp only at hRA
  rw [hty] at hRA
  have hz := hI.1.1
  have hbytes : n.toNatClampNeg * componentBytes (newarray.typeOf at0) ≤ 536870912 := by
    have : componentBytes (newarray.typeOf at0) ≤ 8 := by cases at0 <;> decide
    calc n.toNatClampNeg * componentBytes (newarray.typeOf at0) ≤ 1000 * 8 := Nat.mul_le_mul g1 this
      _ ≤ 536870912 := by decide
  refine va_newaK hx hb (hts _ hw) rfl hd rfl g0 rfl hbytes hr1 hr2 hz fun H1 cA' e1 z1 o1 hAr hNm => ?_
  have hcA : dA ak = cA' := by
    have hRA' : s.vm.findClass ("[" ++ (newarray.typeOf at0).toString) = some (dA ak) := by cases at0 <;> exact hRA
    exact Option.some.inj (hRA'.symm.trans hNm)
  subst hcA
  refine kk H1 (hI.new (by rw [z1, hz]) (fun q hq => o1 q (by rw [← hz]; exact hq)) (Or.inr ⟨by show ak < 6; omega, ?_⟩))
  rw [hz, e1]
  refine congrArg some (arz_cell _ _ _ _ fun j => ?_)
  cases at0 <;> first | (cases hak; rfl) | cases hak
theorem newq_sim (ok : TbOk) (hC : Cx dA D p R s m args meth c mt) (hd : decode (byt (mnum mt)) pc = .ok (.anewarray x, 3)) (hI : Iv dA D s σ0 σ H locs cells slots) {ak : Nat} (hak : anw (mown mt) x = some ak) {n : Int32} (h : mkA σ ak n = some σ') (hr1 : cells + 1 ≤ R.cells) (hr2 : slots + n.toNatClampNeg ≤ R.slots)
    (kk : ∀ (H1 : Heap), Iv dA D s σ0 σ' H1 locs (cells + 1) (slots + n.toNatClampNeg) → W p l e R s m args below meth c H1 locs (cells + 1) (slots + n.toNatClampNeg) Q (F0 m (pc + 3) ls (.ref σ.1 :: rest))) : W p l e R s m args below meth c H locs cells slots Q (F0 m pc ls (.int n :: rest)) := by
  obtain ⟨hx, hb, -, -, -, hown, -, hts, hK, -⟩ := hC
  obtain ⟨hk6, hk3, C, hty, hcl, hov⟩ := ok.2.2.2.2.2.2.2.1 _ _ _ hak
  replace h := ite_some h
  obtain ⟨⟨n0, n1⟩, h⟩ := h
  cases h
  obtain ⟨g0, g1⟩ := n1000 n0 n1
  have hRA := (hK.1.2 ak _ (tys_at dA hk6)).2
  dsimp only at hRA
  rw [hty] at hRA
  obtain ⟨kA, comp, k1, k2, k3, k4⟩ := hRA
  have hz := hI.1.1
  refine W.anew hx hb hown (hts _ hcl) ((hK.2.2 C hov).use) rfl hd rfl g0 (by omega) hr1 hr2 fun cA' kA' comp' f1 f2 f3 f4 => ?_
  cases k4.symm.trans f1
  rw [hz]
  refine kk _ (hI.new (by simp) (fun q hq => by rw [Array.getElem?_push, if_neg (Nat.ne_of_lt hq)]) (Or.inr ⟨hk6, ?_⟩))
  show (H.push _)[H.size]? = _
  rw [arrV_new]
  have e : (fun _ : Nat => Value.null) = acv (azc ak) := by
    funext j
    match ak, hk3 with
    | (q + 3), _ => rfl
  rw [← e]
  simp
end XSIM
