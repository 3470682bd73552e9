/-! Contracts of runs; calls; the step; the whole run. -/
def wsM (M : Nat) : List Cond := Cond.code (ynm M) (byt M) (mmax (mtd M)) (rty M) :: gws
def rmM (M mc ms : Nat) : Room := { frames := mfrm (mtd M), cells := mc, slots := ms, locals := mwds (mtd M) }
def Pcc (dA : Nat → ClassId) (D : va_G) (a : List sv) (σ : Hp) : Array Value → State → Prop := fun v U => v = (a.map sval).toArray ∧ Hd dA D U σ U.heap ∧ Kx dA D U
def Qcc (dA : Nat → ClassId) (D : va_G) (σ : Hp) (r : Rs) : Array Value → State → Outcome → State → Prop := fun _ st oc t =>
  oc = .returned (r.1.map sval) ∧ Hd dA D t r.2 t.heap ∧ va_F (Af σ) st t ∧ ∀ a c, r.2.2.2 a = some c → wr c = true → Af σ a
/-- the contract of one run: from the arguments a and the heap σ to the answer r -/
def MetR (l : Launch) (dA : Nat → ClassId) (D : va_G) (M : Nat) (a : List sv) (σ : Hp) (r : Rs) : Prop :=
  Met l (ynm M) (wsM M) (rmM M (r.2.1 - σ.1) (r.2.2.1 - σ.2.1)) (Pcc dA D a σ) (Qcc dA D σ r) (r.2.1 - σ.1) (r.2.2.1 - σ.2.1) (Af σ)
theorem Pcc_blind (dA : Nat → ClassId) (D : va_G) (a : List sv) (σ : Hp) : FrameBlind (Pcc dA D a σ) := fun b U g mk q => by
  obtain ⟨q0, q1, q2⟩ := q
  exact ⟨q0, Hd.moved (u := U) (U := U.calling g mk b) (Vm.Alike.refl U.vm) q1, Kx.same (s := U) (U := U.calling g mk b) rfl q2⟩
theorem wsM_in {M : Nat} (h : MtOk M) : GoodIn gws (wsM M) := by
  intro w hw
  rcases List.mem_cons.mp hw with rfl | hw
  · exact gws_good h.2.1
  · exact gws_good hw
theorem cgo_inv {k : Fr → Option Rs} {m : Mt} {pc : Nat} {lo : Ls} {M : Nat} {a rest : List sv} {σ : Hp} {r : Rs} (h : cgo k m pc lo M a rest σ = some r) : ∃ r' : Rs, k (ent M a σ) = some r' ∧ k (gto m (pc + 3) lo (r'.1.toList ++ rest) r'.2) = some r := by
  unfold cgo at h
  split at h
  · replace h := Option.bind_eq_some_iff.mp h
    obtain ⟨q, hq, h⟩ := h
    replace hq := Option.bind_eq_some_iff.mp hq
    obtain ⟨⟨v, σ'⟩, hr, hq⟩ := hq
    replace hq := Option.bind_eq_some_iff.mp hq
    obtain ⟨u, hu, hq⟩ := hq
    cases hq
    refine ⟨_, hr, ?_⟩
    rcases v with _ | v
    · exact h
    · cases hu
  · replace h := Option.bind_eq_some_iff.mp h
    obtain ⟨q, hq, h⟩ := h
    replace hq := Option.bind_eq_some_iff.mp hq
    obtain ⟨⟨v, σ'⟩, hr, hq⟩ := hq
    replace hq := Option.bind_eq_some_iff.mp hq
    obtain ⟨u, hu, hq⟩ := hq
    cases hq
    refine ⟨_, hr, ?_⟩
    rcases v with _ | v | v | v
    · cases hu
    · cases hu; exact h
    · cases hu
    · cases hu
  · replace h := Option.bind_eq_some_iff.mp h
    obtain ⟨q, hq, h⟩ := h
    replace hq := Option.bind_eq_some_iff.mp hq
    obtain ⟨⟨v, σ'⟩, hr, hq⟩ := hq
    replace hq := Option.bind_eq_some_iff.mp hq
    obtain ⟨u, hu, hq⟩ := hq
    cases hq
    refine ⟨_, hr, ?_⟩
    rcases v with _ | v | v | v
    · cases hu
    · cases hu
    · cases hu; exact h
    · cases hu
  · replace h := Option.bind_eq_some_iff.mp h
    obtain ⟨q, hq, h⟩ := h
    replace hq := Option.bind_eq_some_iff.mp hq
    obtain ⟨⟨v, σ'⟩, hr, hq⟩ := hq
    replace hq := Option.bind_eq_some_iff.mp hq
    obtain ⟨u, hu, hq⟩ := hq
    cases hq
    refine ⟨_, hr, ?_⟩
    rcases v with _ | v | v | v
    · cases hu
    · cases hu
    · cases hu
    · cases hu; exact h
  · replace h := Option.bind_eq_some_iff.mp h
    obtain ⟨q, hq, h⟩ := h
    replace hq := Option.bind_eq_some_iff.mp hq
    obtain ⟨⟨v, σ'⟩, hr, hq⟩ := hq
    replace hq := Option.bind_eq_some_iff.mp hq
    obtain ⟨u, hu, hq⟩ := hq
    cases hq
    refine ⟨_, hr, ?_⟩
    rcases v with _ | v | v | v
    · cases hu
    · cases hu; exact h
    · cases hu
    · cases hu
  · cases h
theorem rcv_inv {σ : Hp} {a : List sv} {ci b : Nat} (h : rcv σ a ci = some b) : ∃ (t : List sv) (fs : List sv), a = sA (some b) :: t ∧ σ.2.2 b = some (.inr (ci, fs)) := by
  unfold rcv at h
  split at h
  · rename_i rr t
    replace h := Option.bind_eq_some_iff.mp h
    obtain ⟨q, hq, h⟩ := h
    cases h
    obtain ⟨e1, e2⟩ := ob_inv hq
    subst e1
    exact ⟨t, q.2, rfl, e2⟩
  · cases h
theorem tol_map (v : Option sv) (st : List sv) : (v.toList ++ st).map sval = (v.map sval).toList ++ st.map sval := by
  cases v <;> rfl
section CSIM
variable {p : Program} {l : Launch} {e : Env} {R : Room} {s : State} {m : MethodId} {args : Array Value} {below : List Frame} {meth : Method} {c : Code} {Q : State → Prop} {dA : Nat → ClassId} {D : va_G} {σ0 σ : Hp} {mt : Mt} {r r' : Rs} {k : Fr → Option Rs}
variable {H : Heap} {locs : List Loc} {cells slots pc x : Nat} {ls : Array Slot} {lo : Ls}
/-- behind a call -/
theorem back_sim {st0 rest : List Value} {a : Array Value} (hr : va_Run p l e R s m args below meth c H locs cells slots (r'.2.1 - σ.1) (r'.2.2.1 - σ.2.1) (F0 m pc ls st0) rest (Qcc dA D σ r' a) (Af σ)) (hI : Iv dA D s σ0 σ H locs cells slots) (hm : σ.1 ≤ r'.2.1 ∧ σ.2.1 ≤ r'.2.2.1)
    (kk : ∀ (H1 : Heap) (locs1 : List Loc), Iv dA D s σ0 r'.2 H1 locs1 (cells + (r'.2.1 - σ.1)) (slots + (r'.2.2.1 - σ.2.1)) → W p l e R s m args below meth c H1 locs1 (cells + (r'.2.1 - σ.1)) (slots + (r'.2.2.1 - σ.2.1)) Q (F0 m (pc + 3) ls ((r'.1.map sval).toList ++ rest))) : W p l e R s m args below meth c H locs cells slots Q (F0 m pc ls st0) := by
  intro T hT X
  obtain ⟨v, st₀, t, T', L, h0, X', hL, e1, e2, ⟨hv, hH, ⟨hz, hk⟩, hw⟩, st⟩ := hr T hT X
  cases hv
  rw [h0] at hz hk
  obtain ⟨i1, i2, i3, i4, i5, i6⟩ := hI
  have hal : s.vm.Alike t.vm := by rw [← e2]; exact X'.warmed.alike
  have hAA : ∀ q, Af σ q → Af σ0 q := by
    intro q hq
    rcases hq with ⟨d, h1, h2⟩ | hq
    · exact i3 q d h1 h2
    · exact Or.inr (by omega)
  obtain ⟨t2, a1, b1⟩ := kk T'.heap (locs ++ L) ⟨by rw [e1]; exact hH.moved hal.symm, ⟨Nat.le_trans i2.1 (by rw [e1]; exact hz), fun q h1 h2 => by
      rw [e1, hk q (Nat.lt_of_lt_of_le h1 i2.1) (fun z => h2 (hAA q z))]; exact i2.2.1 q h1 h2, fun q hq => by
      rcases List.mem_append.mp hq with h | h
      · exact i2.2.2 q h
      · exact hAA _ (hL q h)⟩, fun a d h1 h2 => hAA a (hw a d h1 h2), by omega, by omega, i6⟩ T' rfl X'
  exact ⟨t2, st t2 a1, b1⟩
theorem rmk_inv {m1 m2 : Mt} {a st : List sv} (h : rmk m1 m2 a st = true) : mfrm m2 + 1 ≤ mfrm m1 ∧ 19 + mmax m2 + mwds m2 ≤ mwds m1 ∧ wsum st ≤ 8 ∧ wsum a ≤ mmax m2 := by
  unfold rmk at h
  simp only [Bool.and_eq_true] at h
  exact ⟨Nat.le_of_ble_eq_true h.1, Nat.le_of_ble_eq_true h.2.1, Nat.le_of_ble_eq_true h.2.2.1, Nat.le_of_ble_eq_true h.2.2.2⟩
theorem pre_sim {a : List sv} (hC : Cx dA D p R s m args meth c mt) (hI : Iv dA D s σ0 σ H locs cells slots) : ∀ U : State, U.heap = H → s.WarmedH U.vm → Pcc dA D a σ (a.map sval).toArray U := by
  intro U hU hW
  exact ⟨rfl, by rw [hU]; exact hI.1.moved hW.alike, hC.2.2.2.2.2.2.2.2.1.warm hW⟩
theorem stat_sim (ok : TbOk) (hC : Cx dA D p R s m args meth c mt) (hd : decode (byt (mnum mt)) pc = .ok (.invokestatic x, 3)) {M : Nat} (hM : mts (mown mt) x = some M) (hl : sh ls (mmax mt) lo) (hI : Iv dA D s σ0 σ H locs cells slots) {a rest : List sv} (hlen : a.length = marg (mtd M)) {aa : List sv} (hrm : rmk mt (mtd M) aa rest = true) (hc : MetR l dA D M a σ r') (hm : σ.1 ≤ r'.2.1 ∧ σ.2.1 ≤ r'.2.2.1) (hf : cells + (r'.2.1 - σ.1) ≤ R.cells ∧ slots + (r'.2.2.1 - σ.2.1) ≤ R.slots)
    (kk : ∀ (H1 : Heap) (locs1 : List Loc), Iv dA D s σ0 r'.2 H1 locs1 (cells + (r'.2.1 - σ.1)) (slots + (r'.2.2.1 - σ.2.1)) → W p l e R s m args below meth c H1 locs1 (cells + (r'.2.1 - σ.1)) (slots + (r'.2.2.1 - σ.2.1)) Q (F0 m (pc + 3) ls ((r'.1.map sval).toList ++ rest.map sval))) : W p l e R s m args below meth c H locs cells slots Q (F0 m pc ls ((a.map sval).reverse ++ rest.map sval)) := by
  obtain ⟨hok, hst, hlk⟩ := ok.2.2.1 _ _ _ hM
  obtain ⟨-, hcode, -, -, hdd, -, hini, -, -⟩ := hok
  obtain ⟨hr1, hr2, hr3, -⟩ := rmk_inv hrm
  have hp := pre_sim (a := a) hC hI
  obtain ⟨hx, hb, hml, -, -, hown, -, hts, hK, hfr, hwd⟩ := hC
  have hR : (rmM M (r'.2.1 - σ.1) (r'.2.2.1 - σ.2.1)).frames + 1 ≤ R.frames ∧ 8 + (mmax (mtd M) + 11) + (rmM M (r'.2.1 - σ.1) (r'.2.2.1 - σ.2.1)).locals ≤ R.locals := by
    show mfrm (mtd M) + 1 ≤ R.frames ∧ 8 + (mmax (mtd M) + 11) + mwds (mtd M) ≤ R.locals
    omega
  have hW8 : 2 * (F0 m pc ls ((a.map sval).reverse ++ rest.map sval)).monitorRoom + ((rest.map sval).map fun v => v.category).sum ≤ 8 := lv_room (by rw [wsum_cat]; exact hr3)
  rcases hlk with hlk | ⟨q, hq, q1, q2, q3⟩
  · refine back_sim (va_runS ⟨hx, hb, hml, hown, hts⟩ hc (va_cwS (marg (mtd M)) hts ?_ rfl rfl rfl hdd hR) ⟨Pcc_blind dA D a σ, hp⟩ rfl (by rw [List.length_map]; exact hlen) hl.1 rfl hW8 hd hf) hI hm kk
    intro w hw
    unfold va_wsS at hw
    rcases List.mem_append.mp hw with hw | hw
    · rcases List.mem_cons.mp hw with rfl | hw
      · exact gws_good hlk
      rcases List.mem_cons.mp hw with rfl | hw
      · exact gws_good hst
      rcases List.mem_cons.mp hw with rfl | hw
      · exact gws_good hini
      · cases hw
    · exact wsM_in (ok.2.2.1 _ _ _ hM).1 w hw
  · have hnw := hK.2.1 q hq
    unfold nlw at hnw
    rw [q1, q2, q3] at hnw
    exact back_sim (va_runSN ⟨hx, hb, hml, hown, hts⟩ hc ⟨va_cnB (marg (mtd M)) hts (wsM_in (ok.2.2.1 _ _ _ hM).1) rfl rfl rfl hnw (hts _ hini) hdd hR, hts _ hst, trivial⟩ ⟨Pcc_blind dA D a σ, hp⟩ rfl (by rw [List.length_map]; exact hlen) hl.1 rfl hW8 hd hf) hI hm kk
theorem virt_sim (ok : TbOk) (hC : Cx dA D p R s m args meth c mt) (hd : decode (byt (mnum mt)) pc = .ok (.invokevirtual x, 3)) {M : Nat} (hM : mtv (mown mt) x = some M) (hl : sh ls (mmax mt) lo) (hI : Iv dA D s σ0 σ H locs cells slots) {a rest : List sv} {b : Nat} {fs : List sv} (hb0 : σ.2.2 b = some (.inr (mown (mtd M), fs))) (hlen : a.length = marg (mtd M)) {aa : List sv} (hrm : rmk mt (mtd M) aa rest = true) (hc : MetR l dA D M (sA (some b) :: a) σ r') (hm : σ.1 ≤ r'.2.1 ∧ σ.2.1 ≤ r'.2.2.1) (hf : cells + (r'.2.1 - σ.1) ≤ R.cells ∧ slots + (r'.2.2.1 - σ.2.1) ≤ R.slots)
    (kk : ∀ (H1 : Heap) (locs1 : List Loc), Iv dA D s σ0 r'.2 H1 locs1 (cells + (r'.2.1 - σ.1)) (slots + (r'.2.2.1 - σ.2.1)) → W p l e R s m args below meth c H1 locs1 (cells + (r'.2.1 - σ.1)) (slots + (r'.2.2.1 - σ.2.1)) Q (F0 m (pc + 3) ls ((r'.1.map sval).toList ++ rest.map sval))) : W p l e R s m args below meth c H locs cells slots Q (F0 m pc ls ((a.map sval).reverse ++ .ref b :: rest.map sval)) := by
  obtain ⟨hok, hlk, hins, hsel, rc, hrc, hrn⟩ := ok.2.2.2.1 _ _ _ hM
  have hok2 := hok
  obtain ⟨-, hcode, -, -, hdd, -, hini, -, -⟩ := hok
  obtain ⟨hr1, hr2, hr3, -⟩ := rmk_inv hrm
  have hp := pre_sim (a := sA (some b) :: a) hC hI
  obtain ⟨hx, hb, hml, -, -, hown, -, hts, hK, hfr, hwd⟩ := hC
  have hR : (rmM M (r'.2.1 - σ.1) (r'.2.2.1 - σ.2.1)).frames + 1 ≤ R.frames ∧ 8 + (mmax (mtd M) + 11) + (rmM M (r'.2.1 - σ.1) (r'.2.2.1 - σ.2.1)).locals ≤ R.locals := by
    show mfrm (mtd M) + 1 ≤ R.frames ∧ 8 + (mmax (mtd M) + 11) + mwds (mtd M) ≤ R.locals
    omega
  have hW8 : 2 * (F0 m pc ls ((a.map sval).reverse ++ .ref b :: rest.map sval)).monitorRoom + ((rest.map sval).map fun v => v.category).sum ≤ 8 := lv_room (by rw [wsum_cat]; exact hr3)
  have hrcv : ∃ cellB : Cell, H[b]? = some cellB ∧ cellB.vm.isStatics = false ∧ s.vm.findClass (ynm M).cls = some cellB.cls := by
    obtain ⟨r2, hr2', ⟨cell, g1, g2, g3, -⟩, -⟩ := hI.1.2 _ _ hb0
    have hcls := (hK.1.1 _ rc hrc).2
    exact ⟨cell, g1, by rw [g3]; rfl, by rw [← hrn, hcls.1, g2]⟩
  refine back_sim (va_runV (As := a.map sval) (rest := rest.map sval) ⟨hx, hb, hml, hown, hts⟩ hc (cwV (marg (mtd M)) hts ?_ rfl rfl rfl ⟨rfl, hdd⟩ hR) ⟨Pcc_blind dA D _ σ, hrcv, hp⟩ rfl (by rw [List.length_map]; exact hlen) hl.1 rfl hW8 hd hf) hI hm kk
  intro w hw
  unfold wsV at hw
  rcases List.mem_append.mp hw with hw | hw
  · rcases List.mem_cons.mp hw with rfl | hw
    · exact gws_good hlk
    rcases List.mem_cons.mp hw with rfl | hw
    · exact gws_good hins
    rcases List.mem_cons.mp hw with rfl | hw
    · exact gws_good hsel
    rcases List.mem_cons.mp hw with rfl | hw
    · exact gws_good hini
    · cases hw
  · exact wsM_in hok2 w hw
theorem init_sim (ok : TbOk) (hC : Cx dA D p R s m args meth c mt) (hd : decode (byt (mnum mt)) pc = .ok (.invokespecial x, 3)) {M : Nat} (hM : mti (mown mt) x = some M) (hl : sh ls (mmax mt) lo) (hI : Iv dA D s σ0 σ H locs cells slots) {a rest : List sv} {b : Nat} (hlen : a.length = marg (mtd M)) {aa : List sv} (hrm : rmk mt (mtd M) aa rest = true) (hc : MetR l dA D M (sA (some b) :: a) σ r') (hm : σ.1 ≤ r'.2.1 ∧ σ.2.1 ≤ r'.2.2.1) (hf : cells + (r'.2.1 - σ.1) ≤ R.cells ∧ slots + (r'.2.2.1 - σ.2.1) ≤ R.slots)
    (kk : ∀ (H1 : Heap) (locs1 : List Loc), Iv dA D s σ0 r'.2 H1 locs1 (cells + (r'.2.1 - σ.1)) (slots + (r'.2.2.1 - σ.2.1)) → W p l e R s m args below meth c H1 locs1 (cells + (r'.2.1 - σ.1)) (slots + (r'.2.2.1 - σ.2.1)) Q (F0 m (pc + 3) ls ((r'.1.map sval).toList ++ rest.map sval))) : W p l e R s m args below meth c H locs cells slots Q (F0 m pc ls ((a.map sval).reverse ++ .ref b :: rest.map sval)) := by
  obtain ⟨hok, hlk, hins, hnm, hmr⟩ := ok.2.2.2.2.1 _ _ _ hM
  have hok2 := hok
  obtain ⟨-, hcode, -, -, hdd, hrt, hini, -, -⟩ := hok
  have hrty : rty M = none := by
    rcases hrt with ⟨-, h⟩ | ⟨h, -⟩ | ⟨h, -⟩ | ⟨h, -⟩ | ⟨h, -⟩
    · exact h
    all_goals (rw [hmr] at h; cases h)
  obtain ⟨hr1, hr2, hr3, -⟩ := rmk_inv hrm
  have hp := pre_sim (a := sA (some b) :: a) hC hI
  obtain ⟨hx, hb, hml, -, -, hown, -, hts, hK, hfr, hwd⟩ := hC
  have hR : (rmM M (r'.2.1 - σ.1) (r'.2.2.1 - σ.2.1)).frames + 1 ≤ R.frames ∧ 8 + (mmax (mtd M) + 11) + (rmM M (r'.2.1 - σ.1) (r'.2.2.1 - σ.2.1)).locals ≤ R.locals := by
    show mfrm (mtd M) + 1 ≤ R.frames ∧ 8 + (mmax (mtd M) + 11) + mwds (mtd M) ≤ R.locals
    omega
  have hW8 : 2 * (F0 m pc ls ((a.map sval).reverse ++ .ref b :: rest.map sval)).monitorRoom + ((rest.map sval).map fun v => v.category).sum ≤ 8 := lv_room (by rw [wsum_cat]; exact hr3)
  have hwm : wsM M = Cond.code (ynm M) (byt M) (mmax (mtd M)) none :: gws := by rw [← hrty]; rfl
  rcases hlk with hlk | ⟨q, hq, q1, q2, q3⟩
  · exact back_sim (va_runI (As := a.map sval) (rest := rest.map sval) ⟨hx, hb, hml, hown, hts⟩ hc (cwI (marg (mtd M)) hts (wsM_in hok2) hwm rfl rfl (hts _ hini) (hts _ hlk) (hts _ hins) hnm hdd hR) ⟨Pcc_blind dA D _ σ, hp⟩ rfl (by rw [List.length_map]; exact hlen) hl.1 rfl hW8 hd hf) hI hm kk
  · have hnw := hK.2.1 q hq
    unfold nlw at hnw
    rw [q1, q2, q3] at hnw
    exact back_sim (va_runIN (As := a.map sval) (rest := rest.map sval) ⟨hx, hb, hml, hown, hts⟩ hc ⟨va_cnB (marg (mtd M)) hts (wsM_in hok2) hwm rfl rfl hnw (hts _ hini) hdd hR, hnm, hts _ hins⟩ ⟨Pcc_blind dA D _ σ, hp⟩ rfl (by rw [List.length_map]; exact hlen) hl.1 rfl hW8 hd hf) hI hm kk
end CSIM
