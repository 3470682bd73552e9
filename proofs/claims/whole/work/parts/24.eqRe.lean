/-! Equations of the stretches (printed by wip/gen/tabs.py). -/
-- MeshRoom$Resolver.<init>(LMeshRoom$History;)V
set_option maxRecDepth 100000 in
set_option maxHeartbeats 4000000 in
theorem eRe_init (x0 : Option Nat) (x1 : Option Nat) (σ : Hp) : rF (mRe_init, 0, [(0, sA x0), (1, sA x1)], [], σ) =
  (x0).bind fun _ =>
  (mkA σ 2 (9 : Int32)).bind fun σ7 =>
  (pfA σ7 x0 4 1 (some (Prod.fst σ))).bind fun σ9 =>
  (rcv (mkO σ9 6) [sA (some (Prod.fst σ9))] 6).bind fun _ =>
  (cV rF nSt_init [sA (some (Prod.fst σ9))] (mkO σ9 6)).bind fun q17 =>
  (pfA q17 x0 4 2 (some (Prod.fst σ9))).bind fun σ20 =>
  (rcv (mkO σ20 6) [sA (some (Prod.fst σ20))] 6).bind fun _ =>
  (cV rF nSt_init [sA (some (Prod.fst σ20))] (mkO σ20 6)).bind fun q28 =>
  (pfA q28 x0 4 3 (some (Prod.fst σ20))).bind fun σ31 =>
  (mkA σ31 0 (41 : Int32)).bind fun σ37 =>
  (pfA σ37 x0 4 4 (some (Prod.fst σ31))).bind fun σ39 =>
  (mkA σ39 0 (41 : Int32)).bind fun σ45 =>
  (pfA σ45 x0 4 5 (some (Prod.fst σ39))).bind fun σ47 =>
  (pfA σ47 x0 4 0 x1).bind fun σ52 =>
  some (none, σ52)
  := (blk_eq sRe_init 33 _).trans rfl

-- MeshRoom$Resolver.resolve(JLMeshRoom$State;)V
noncomputable def fRe_resolve_35 (x0 : Option Nat) (x3 : Option Nat) (x4 : Int64) (x6 : Int64) (x8 : Int64) (x10 : Int32) (σ : Hp) : Option Rs := rF (mRe_resolve, 35, [(0, sA x0), (3, sA x3), (4, sJ x4), (6, sJ x6), (8, sJ x8), (10, sI x10)], [], σ)
noncomputable def fRe_resolve_70 (x0 : Option Nat) (x3 : Option Nat) (x4 : Int64) (x6 : Int64) (σ : Hp) : Option Rs := rF (mRe_resolve, 70, [(0, sA x0), (3, sA x3), (4, sJ x4), (6, sJ x6)], [], σ)
noncomputable def fRe_resolve_89 (x0 : Option Nat) (x3 : Option Nat) (x8 : Int64) (x10 : Int32) (σ : Hp) : Option Rs := rF (mRe_resolve, 89, [(0, sA x0), (3, sA x3), (8, sJ x8), (10, sI x10)], [], σ)
noncomputable def fRe_resolve_124 (x0 : Option Nat) (x3 : Option Nat) (σ : Hp) : Option Rs := rF (mRe_resolve, 124, [(0, sA x0), (3, sA x3)], [], σ)
set_option maxRecDepth 100000 in
set_option maxHeartbeats 4000000 in
theorem eRe_resolve (x0 : Option Nat) (x1 : Int64) (x3 : Option Nat) (σ : Hp) : rF (mRe_resolve, 0, [(0, sA x0), (1, sJ x1), (3, sA x3)], [], σ) =
  (rcv σ [sA x0, sJ x1] 4).bind fun _ =>
  (cV rF nRe_findAgreed [sA x0, sJ x1] σ).bind fun q2 =>
  (gfA q2 x0 4 2).bind fun v7 =>
  (rcv q2 [sA x3, sA v7] 6).bind fun _ =>
  (cV rF nSt_copyFrom [sA x3, sA v7] q2).bind fun q10 =>
  (rcv q10 [sA x0, sJ x1] 4).bind fun _ =>
  (cJ rF nRe_findContested [sA x0, sJ x1] q10).bind fun q15 =>
  (rcv q15.2 [sA x0, sJ q15.1] 4).bind fun _ =>
  (cJ rF nRe_heavyWithChains [sA x0, sJ q15.1] q15.2).bind fun q23 =>
  fRe_resolve_35 x0 x3 q15.1 q23.1 q23.1 (0 : Int32) q23.2
  := (blk_eq sRe_resolve 73 _).trans rfl
set_option maxRecDepth 100000 in
set_option maxHeartbeats 4000000 in
theorem eRe_resolve_35 (x0 : Option Nat) (x3 : Option Nat) (x4 : Int64) (x6 : Int64) (x8 : Int64) (x10 : Int32) (σ : Hp) : fRe_resolve_35 x0 x3 x4 x6 x8 x10 σ =
  if (40 : Int32) ≤ x10 then
    fRe_resolve_70 x0 x3 x4 x6 σ
  else
    if (lg_cmp x8 (0 : Int64)) = 0 then
      fRe_resolve_70 x0 x3 x4 x6 σ
    else
      (rcv σ [sA x0, sJ x8] 4).bind fun _ =>
      (cA rF nRe_nextHeavy [sA x0, sJ x8] σ).bind fun q53 =>
      (rcv q53.2 [sA x0, sA q53.1, sJ x8, sA x3] 4).bind fun _ =>
      (cJ rF nRe_tryOne [sA x0, sA q53.1, sJ x8, sA x3] q53.2).bind fun q59 =>
      fRe_resolve_35 x0 x3 x4 x6 q59.1 (x10 + (1 : Int32)) q59.2
  := (blk_eq sRe_resolve 73 _).trans rfl
set_option maxRecDepth 100000 in
set_option maxHeartbeats 4000000 in
theorem eRe_resolve_70 (x0 : Option Nat) (x3 : Option Nat) (x4 : Int64) (x6 : Int64) (σ : Hp) : fRe_resolve_70 x0 x3 x4 x6 σ =
  (rcv σ [sA x0, sA x3] 4).bind fun _ =>
  (cV rF nRe_findPlaces [sA x0, sA x3] σ).bind fun q72 =>
  fRe_resolve_89 x0 x3 (x4 &&& (x6 ^^^ (-1 : Int64))) (0 : Int32) q72
  := (blk_eq sRe_resolve 73 _).trans rfl
set_option maxRecDepth 100000 in
set_option maxHeartbeats 4000000 in
theorem eRe_resolve_89 (x0 : Option Nat) (x3 : Option Nat) (x8 : Int64) (x10 : Int32) (σ : Hp) : fRe_resolve_89 x0 x3 x8 x10 σ =
  if (40 : Int32) ≤ x10 then
    fRe_resolve_124 x0 x3 σ
  else
    if (lg_cmp x8 (0 : Int64)) = 0 then
      fRe_resolve_124 x0 x3 σ
    else
      (rcv σ [sA x0, sJ x8] 4).bind fun _ =>
      (cA rF nRe_nextOther [sA x0, sJ x8] σ).bind fun q107 =>
      (rcv q107.2 [sA x0, sA q107.1, sJ x8, sA x3] 4).bind fun _ =>
      (cJ rF nRe_tryOne [sA x0, sA q107.1, sJ x8, sA x3] q107.2).bind fun q113 =>
      fRe_resolve_89 x0 x3 q113.1 (x10 + (1 : Int32)) q113.2
  := (blk_eq sRe_resolve 73 _).trans rfl
set_option maxRecDepth 100000 in
set_option maxHeartbeats 4000000 in
theorem eRe_resolve_124 (x0 : Option Nat) (x3 : Option Nat) (σ : Hp) : fRe_resolve_124 x0 x3 σ =
  (rcv σ [sA x0, sA x3] 4).bind fun _ =>
  (cV rF nRe_restoreAgreed [sA x0, sA x3] σ).bind fun q126 =>
  some (none, q126)
  := (blk_eq sRe_resolve 73 _).trans rfl

-- MeshRoom$Resolver.findAgreed(J)V
noncomputable def fRe_findAgreed_2 (x0 : Option Nat) (x1 : Int64) (x3 : Int32) (σ : Hp) : Option Rs := rF (mRe_findAgreed, 2, [(0, sA x0), (1, sJ x1), (3, sI x3)], [], σ)
noncomputable def fRe_findAgreed_36 (x0 : Option Nat) (x1 : Int64) (x3 : Int32) (x4 : Int32) (σ : Hp) : Option Rs := rF (mRe_findAgreed, 36, [(0, sA x0), (1, sJ x1), (3, sI x3), (4, sI x4)], [], σ)
noncomputable def fRe_findAgreed_81 (x0 : Option Nat) (x1 : Int64) (x4 : Int32) (x5 : Option Nat) (σ : Hp) : Option Rs := rF (mRe_findAgreed, 81, [(0, sA x0), (1, sJ x1), (4, sI x4), (5, sA x5)], [], σ)
noncomputable def fRe_findAgreed_92 (x0 : Option Nat) (x1 : Int64) (x3 : Int32) (x4 : Int32) (σ : Hp) : Option Rs := rF (mRe_findAgreed, 92, [(0, sA x0), (1, sJ x1), (3, sI x3), (4, sI x4)], [], σ)
set_option maxRecDepth 100000 in
set_option maxHeartbeats 4000000 in
theorem eRe_findAgreed (x0 : Option Nat) (x1 : Int64) (σ : Hp) : rF (mRe_findAgreed, 0, [(0, sA x0), (1, sJ x1)], [], σ) =
  fRe_findAgreed_2 x0 x1 (0 : Int32) σ
  := (blk_eq sRe_findAgreed 56 _).trans rfl
set_option maxRecDepth 100000 in
set_option maxHeartbeats 4000000 in
theorem eRe_findAgreed_2 (x0 : Option Nat) (x1 : Int64) (x3 : Int32) (σ : Hp) : fRe_findAgreed_2 x0 x1 x3 σ =
  if (9 : Int32) ≤ x3 then
    fRe_findAgreed_36 x0 x1 (1 : Int32) (1 : Int32) σ
  else
    (gfA σ x0 4 1).bind fun v9 =>
    (asZ σ v9 x3 (1 : Int32)).bind fun σ14 =>
    (gfA σ14 x0 4 2).bind fun v16 =>
    (gfA σ14 v16 6 0).bind fun v19 =>
    (asA σ14 v19 x3 none).bind fun σ24 =>
    fRe_findAgreed_2 x0 x1 (x3 + (1 : Int32)) σ24
  := (blk_eq sRe_findAgreed 56 _).trans rfl
set_option maxRecDepth 100000 in
set_option maxHeartbeats 4000000 in
theorem eRe_findAgreed_36 (x0 : Option Nat) (x1 : Int64) (x3 : Int32) (x4 : Int32) (σ : Hp) : fRe_findAgreed_36 x0 x1 x3 x4 σ =
  (gfA σ x0 4 0).bind fun v39 =>
  (gfI σ v39 2 1).bind fun v42 =>
  if v42 < x4 then
    some (none, σ)
  else
    (gfA σ x0 4 0).bind fun v49 =>
    (rcv σ [sA v49, sI x4, sJ x1] 2).bind fun _ =>
    (cA rF nHi_pick [sA v49, sI x4, sJ x1] σ).bind fun q55 =>
    if q55.1 = none then
      fRe_findAgreed_92 x0 x1 x3 x4 q55.2
    else
      if x3 = 0 then
        fRe_findAgreed_81 x0 x1 x4 q55.1 q55.2
      else
        (gfA q55.2 x0 4 2).bind fun v70 =>
        (gfA q55.2 q55.1 1 7).bind fun v75 =>
        (rcv q55.2 [sA v70, sA v75] 6).bind fun _ =>
        (cV rF nSt_copyFrom [sA v70, sA v75] q55.2).bind fun q78 =>
        fRe_findAgreed_81 x0 x1 x4 q55.1 q78
  := (blk_eq sRe_findAgreed 56 _).trans rfl
set_option maxRecDepth 100000 in
set_option maxHeartbeats 4000000 in
theorem eRe_findAgreed_81 (x0 : Option Nat) (x1 : Int64) (x4 : Int32) (x5 : Option Nat) (σ : Hp) : fRe_findAgreed_81 x0 x1 x4 x5 σ =
  (gfA σ x5 1 7).bind fun v86 =>
  (rcv σ [sA x0, sA v86] 4).bind fun _ =>
  (cV rF nRe_dropDiffering [sA x0, sA v86] σ).bind fun q89 =>
  fRe_findAgreed_92 x0 x1 (0 : Int32) x4 q89
  := (blk_eq sRe_findAgreed 56 _).trans rfl
set_option maxRecDepth 100000 in
set_option maxHeartbeats 4000000 in
theorem eRe_findAgreed_92 (x0 : Option Nat) (x1 : Int64) (x3 : Int32) (x4 : Int32) (σ : Hp) : fRe_findAgreed_92 x0 x1 x3 x4 σ =
  fRe_findAgreed_36 x0 x1 x3 (x4 + (1 : Int32)) σ
  := (blk_eq sRe_findAgreed 56 _).trans rfl

-- MeshRoom$Resolver.dropDiffering(LMeshRoom$State;)V
noncomputable def fRe_dropDiffering_2 (x0 : Option Nat) (x1 : Option Nat) (x2 : Int32) (σ : Hp) : Option Rs := rF (mRe_dropDiffering, 2, [(0, sA x0), (1, sA x1), (2, sI x2)], [], σ)
noncomputable def fRe_dropDiffering_43 (x0 : Option Nat) (x1 : Option Nat) (x2 : Int32) (σ : Hp) : Option Rs := rF (mRe_dropDiffering, 43, [(0, sA x0), (1, sA x1), (2, sI x2)], [], σ)
set_option maxRecDepth 100000 in
set_option maxHeartbeats 4000000 in
theorem eRe_dropDiffering (x0 : Option Nat) (x1 : Option Nat) (σ : Hp) : rF (mRe_dropDiffering, 0, [(0, sA x0), (1, sA x1)], [], σ) =
  fRe_dropDiffering_2 x0 x1 (0 : Int32) σ
  := (blk_eq sRe_dropDiffering 34 _).trans rfl
set_option maxRecDepth 100000 in
set_option maxHeartbeats 4000000 in
theorem eRe_dropDiffering_2 (x0 : Option Nat) (x1 : Option Nat) (x2 : Int32) (σ : Hp) : fRe_dropDiffering_2 x0 x1 x2 σ =
  if (9 : Int32) ≤ x2 then
    some (none, σ)
  else
    (gfA σ x1 6 0).bind fun v9 =>
    (alA σ v9 x2).bind fun v13 =>
    (gfA σ x0 4 2).bind fun v15 =>
    (gfA σ v15 6 0).bind fun v18 =>
    (alA σ v18 x2).bind fun v22 =>
    if v13 = v22 then
      fRe_dropDiffering_43 x0 x1 x2 σ
    else
      (gfA σ x0 4 1).bind fun v27 =>
      (asZ σ v27 x2 (0 : Int32)).bind fun σ32 =>
      (gfA σ32 x0 4 2).bind fun v34 =>
      (gfA σ32 v34 6 0).bind fun v37 =>
      (asA σ32 v37 x2 none).bind fun σ42 =>
      fRe_dropDiffering_43 x0 x1 x2 σ42
  := (blk_eq sRe_dropDiffering 34 _).trans rfl
set_option maxRecDepth 100000 in
set_option maxHeartbeats 4000000 in
theorem eRe_dropDiffering_43 (x0 : Option Nat) (x1 : Option Nat) (x2 : Int32) (σ : Hp) : fRe_dropDiffering_43 x0 x1 x2 σ =
  fRe_dropDiffering_2 x0 x1 (x2 + (1 : Int32)) σ
  := (blk_eq sRe_dropDiffering 34 _).trans rfl

-- MeshRoom$Resolver.findContested(J)J
noncomputable def fRe_findContested_13 (x0 : Option Nat) (x1 : Int64) (x3 : Int64) (x5 : Int64) (x7 : Int64) (x9 : Int32) (σ : Hp) : Option Rs := rF (mRe_findContested, 13, [(0, sA x0), (1, sJ x1), (3, sJ x3), (5, sJ x5), (7, sJ x7), (9, sI x9)], [], σ)
noncomputable def fRe_findContested_78 (x0 : Option Nat) (x1 : Int64) (x3 : Int64) (x5 : Int64) (x7 : Int64) (x9 : Int32) (σ : Hp) : Option Rs := rF (mRe_findContested, 78, [(0, sA x0), (1, sJ x1), (3, sJ x3), (5, sJ x5), (7, sJ x7), (9, sI x9)], [], σ)
set_option maxRecDepth 100000 in
set_option maxHeartbeats 4000000 in
theorem eRe_findContested (x0 : Option Nat) (x1 : Int64) (σ : Hp) : rF (mRe_findContested, 0, [(0, sA x0), (1, sJ x1)], [], σ) =
  fRe_findContested_13 x0 x1 (0 : Int64) (0 : Int64) (-1 : Int64) (1 : Int32) σ
  := (blk_eq sRe_findContested 55 _).trans rfl
set_option maxRecDepth 100000 in
set_option maxHeartbeats 4000000 in
theorem eRe_findContested_13 (x0 : Option Nat) (x1 : Int64) (x3 : Int64) (x5 : Int64) (x7 : Int64) (x9 : Int32) (σ : Hp) : fRe_findContested_13 x0 x1 x3 x5 x7 x9 σ =
  (gfA σ x0 4 0).bind fun v16 =>
  (gfI σ v16 2 1).bind fun v19 =>
  if v19 < x9 then
    some (some (sJ (x3 ||| (x5 &&& (x7 ^^^ (-1 : Int64))))), σ)
  else
    (gfA σ x0 4 0).bind fun v26 =>
    (rcv σ [sA v26, sI x9, sJ x1] 2).bind fun _ =>
    (cA rF nHi_pick [sA v26, sI x9, sJ x1] σ).bind fun q32 =>
    if q32.1 = none then
      fRe_findContested_78 x0 x1 x3 x5 x7 x9 q32.2
    else
      (gfA q32.2 q32.1 1 7).bind fun v44 =>
      (rcv q32.2 [sA v44] 6).bind fun _ =>
      (cJ rF nSt_whole [sA v44] q32.2).bind fun q47 =>
      (gfA q47.2 q32.1 1 7).bind fun v70 =>
      (rcv q47.2 [sA x0, sA v70] 4).bind fun _ =>
      (cJ rF nRe_disputedOf [sA x0, sA v70] q47.2).bind fun q73 =>
      fRe_findContested_78 x0 x1 (x3 ||| q73.1) (x5 ||| q47.1) (x7 &&& q47.1) x9 q73.2
  := (blk_eq sRe_findContested 55 _).trans rfl
set_option maxRecDepth 100000 in
set_option maxHeartbeats 4000000 in
theorem eRe_findContested_78 (x0 : Option Nat) (x1 : Int64) (x3 : Int64) (x5 : Int64) (x7 : Int64) (x9 : Int32) (σ : Hp) : fRe_findContested_78 x0 x1 x3 x5 x7 x9 σ =
  fRe_findContested_13 x0 x1 x3 x5 x7 (x9 + (1 : Int32)) σ
  := (blk_eq sRe_findContested 55 _).trans rfl

-- MeshRoom$Resolver.disputedOf(LMeshRoom$State;)J
noncomputable def fRe_disputedOf_5 (x0 : Option Nat) (x1 : Option Nat) (x2 : Int64) (x4 : Int32) (σ : Hp) : Option Rs := rF (mRe_disputedOf, 5, [(0, sA x0), (1, sA x1), (2, sJ x2), (4, sI x4)], [], σ)
noncomputable def fRe_disputedOf_48 (x0 : Option Nat) (x1 : Option Nat) (x2 : Int64) (x4 : Int32) (σ : Hp) : Option Rs := rF (mRe_disputedOf, 48, [(0, sA x0), (1, sA x1), (2, sJ x2), (4, sI x4)], [], σ)
set_option maxRecDepth 100000 in
set_option maxHeartbeats 4000000 in
theorem eRe_disputedOf (x0 : Option Nat) (x1 : Option Nat) (σ : Hp) : rF (mRe_disputedOf, 0, [(0, sA x0), (1, sA x1)], [], σ) =
  fRe_disputedOf_5 x0 x1 (0 : Int64) (0 : Int32) σ
  := (blk_eq sRe_disputedOf 35 _).trans rfl
set_option maxRecDepth 100000 in
set_option maxHeartbeats 4000000 in
theorem eRe_disputedOf_5 (x0 : Option Nat) (x1 : Option Nat) (x2 : Int64) (x4 : Int32) (σ : Hp) : fRe_disputedOf_5 x0 x1 x2 x4 σ =
  if (9 : Int32) ≤ x4 then
    some (some (sJ x2), σ)
  else
    (gfA σ x0 4 1).bind fun v13 =>
    (alZ σ v13 x4).bind fun v18 =>
    if ¬ v18 = 0 then
      fRe_disputedOf_48 x0 x1 x2 x4 σ
    else
      (gfA σ x1 6 0).bind fun v23 =>
      (alA σ v23 x4).bind fun v28 =>
      if v28 = none then
        fRe_disputedOf_48 x0 x1 x2 x4 σ
      else
        (gfA σ x1 6 0).bind fun v34 =>
        (alA σ v34 x4).bind fun v39 =>
        (gfI σ v39 1 0).bind fun v40 =>
        (cJ rF nRm_bit [sI v40] σ).bind fun q43 =>
        fRe_disputedOf_48 x0 x1 (x2 ||| q43.1) x4 q43.2
  := (blk_eq sRe_disputedOf 35 _).trans rfl
set_option maxRecDepth 100000 in
set_option maxHeartbeats 4000000 in
theorem eRe_disputedOf_48 (x0 : Option Nat) (x1 : Option Nat) (x2 : Int64) (x4 : Int32) (σ : Hp) : fRe_disputedOf_48 x0 x1 x2 x4 σ =
  fRe_disputedOf_5 x0 x1 x2 (x4 + (1 : Int32)) σ
  := (blk_eq sRe_disputedOf 35 _).trans rfl

-- MeshRoom$Resolver.heavyWithChains(J)J
noncomputable def fRe_heavyWithChains_5 (x0 : Option Nat) (x1 : Int64) (x3 : Int64) (x5 : Int32) (σ : Hp) : Option Rs := rF (mRe_heavyWithChains, 5, [(0, sA x0), (1, sJ x1), (3, sJ x3), (5, sI x5)], [], σ)
noncomputable def fRe_heavyWithChains_58 (x0 : Option Nat) (x1 : Int64) (x3 : Int64) (x5 : Int32) (σ : Hp) : Option Rs := rF (mRe_heavyWithChains, 58, [(0, sA x0), (1, sJ x1), (3, sJ x3), (5, sI x5)], [], σ)
set_option maxRecDepth 100000 in
set_option maxHeartbeats 4000000 in
theorem eRe_heavyWithChains (x0 : Option Nat) (x1 : Int64) (σ : Hp) : rF (mRe_heavyWithChains, 0, [(0, sA x0), (1, sJ x1)], [], σ) =
  fRe_heavyWithChains_5 x0 x1 (0 : Int64) (1 : Int32) σ
  := (blk_eq sRe_heavyWithChains 39 _).trans rfl
set_option maxRecDepth 100000 in
set_option maxHeartbeats 4000000 in
theorem eRe_heavyWithChains_5 (x0 : Option Nat) (x1 : Int64) (x3 : Int64) (x5 : Int32) (σ : Hp) : fRe_heavyWithChains_5 x0 x1 x3 x5 σ =
  (gfA σ x0 4 0).bind fun v8 =>
  (gfI σ v8 2 1).bind fun v11 =>
  if v11 < x5 then
    some (some (sJ x3), σ)
  else
    (gfA σ x0 4 0).bind fun v18 =>
    (rcv σ [sA v18, sI x5, sJ x1] 2).bind fun _ =>
    (cA rF nHi_pick [sA v18, sI x5, sJ x1] σ).bind fun q24 =>
    if q24.1 = none then
      fRe_heavyWithChains_58 x0 x1 x3 x5 q24.2
    else
      (rcv q24.2 [sA q24.1] 1).bind fun _ =>
      (cI rF nEv_isHeavy [sA q24.1] q24.2).bind fun q36 =>
      if q36.1 = 0 then
        fRe_heavyWithChains_58 x0 x1 x3 x5 q36.2
      else
        (cJ rF nRm_bit [sI x5] q36.2).bind fun q45 =>
        (gfJ q45.2 q24.1 1 11).bind fun v50 =>
        fRe_heavyWithChains_58 x0 x1 (x3 ||| (q45.1 ||| (v50 &&& x1))) x5 q45.2
  := (blk_eq sRe_heavyWithChains 39 _).trans rfl
set_option maxRecDepth 100000 in
set_option maxHeartbeats 4000000 in
theorem eRe_heavyWithChains_58 (x0 : Option Nat) (x1 : Int64) (x3 : Int64) (x5 : Int32) (σ : Hp) : fRe_heavyWithChains_58 x0 x1 x3 x5 σ =
  fRe_heavyWithChains_5 x0 x1 x3 (x5 + (1 : Int32)) σ
  := (blk_eq sRe_heavyWithChains 39 _).trans rfl

-- MeshRoom$Resolver.nextHeavy(J)LMeshRoom$Event;
noncomputable def fRe_nextHeavy_5 (x0 : Option Nat) (x1 : Int64) (x3 : Option Nat) (x4 : Int32) (σ : Hp) : Option Rs := rF (mRe_nextHeavy, 5, [(0, sA x0), (1, sJ x1), (3, sA x3), (4, sI x4)], [], σ)
noncomputable def fRe_nextHeavy_59 (x0 : Option Nat) (x1 : Int64) (x4 : Int32) (x5 : Option Nat) (σ : Hp) : Option Rs := rF (mRe_nextHeavy, 59, [(0, sA x0), (1, sJ x1), (4, sI x4), (5, sA x5)], [], σ)
noncomputable def fRe_nextHeavy_62 (x0 : Option Nat) (x1 : Int64) (x3 : Option Nat) (x4 : Int32) (σ : Hp) : Option Rs := rF (mRe_nextHeavy, 62, [(0, sA x0), (1, sJ x1), (3, sA x3), (4, sI x4)], [], σ)
set_option maxRecDepth 100000 in
set_option maxHeartbeats 4000000 in
theorem eRe_nextHeavy (x0 : Option Nat) (x1 : Int64) (σ : Hp) : rF (mRe_nextHeavy, 0, [(0, sA x0), (1, sJ x1)], [], σ) =
  fRe_nextHeavy_5 x0 x1 none (1 : Int32) σ
  := (blk_eq sRe_nextHeavy 41 _).trans rfl
set_option maxRecDepth 100000 in
set_option maxHeartbeats 4000000 in
theorem eRe_nextHeavy_5 (x0 : Option Nat) (x1 : Int64) (x3 : Option Nat) (x4 : Int32) (σ : Hp) : fRe_nextHeavy_5 x0 x1 x3 x4 σ =
  (gfA σ x0 4 0).bind fun v8 =>
  (gfI σ v8 2 1).bind fun v11 =>
  if v11 < x4 then
    some (some (sA x3), σ)
  else
    (gfA σ x0 4 0).bind fun v18 =>
    (rcv σ [sA v18, sI x4, sJ x1] 2).bind fun _ =>
    (cA rF nHi_pick [sA v18, sI x4, sJ x1] σ).bind fun q24 =>
    if q24.1 = none then
      fRe_nextHeavy_62 x0 x1 x3 x4 q24.2
    else
      (gfJ q24.2 q24.1 1 11).bind fun v36 =>
      if ¬ (lg_cmp (v36 &&& x1) (0 : Int64)) = 0 then
        fRe_nextHeavy_62 x0 x1 x3 x4 q24.2
      else
        if x3 = none then
          fRe_nextHeavy_59 x0 x1 x4 q24.1 q24.2
        else
          (cI rF nRe_isOfMoreWeight [sA q24.1, sA x3] q24.2).bind fun q53 =>
          if q53.1 = 0 then
            fRe_nextHeavy_62 x0 x1 x3 x4 q53.2
          else
            fRe_nextHeavy_59 x0 x1 x4 q24.1 q53.2
  := (blk_eq sRe_nextHeavy 41 _).trans rfl
set_option maxRecDepth 100000 in
set_option maxHeartbeats 4000000 in
theorem eRe_nextHeavy_59 (x0 : Option Nat) (x1 : Int64) (x4 : Int32) (x5 : Option Nat) (σ : Hp) : fRe_nextHeavy_59 x0 x1 x4 x5 σ =
  fRe_nextHeavy_62 x0 x1 x5 x4 σ
  := (blk_eq sRe_nextHeavy 41 _).trans rfl
set_option maxRecDepth 100000 in
set_option maxHeartbeats 4000000 in
theorem eRe_nextHeavy_62 (x0 : Option Nat) (x1 : Int64) (x3 : Option Nat) (x4 : Int32) (σ : Hp) : fRe_nextHeavy_62 x0 x1 x3 x4 σ =
  fRe_nextHeavy_5 x0 x1 x3 (x4 + (1 : Int32)) σ
  := (blk_eq sRe_nextHeavy 41 _).trans rfl

-- MeshRoom$Resolver.isOfMoreWeight(LMeshRoom$Event;LMeshRoom$Event;)Z
noncomputable def fRe_isOfMoreWeight_31 (σ : Hp) : Option Rs := rF (mRe_isOfMoreWeight, 31, [], [], σ)
noncomputable def fRe_isOfMoreWeight_35 (σ : Hp) : Option Rs := rF (mRe_isOfMoreWeight, 35, [], [], σ)
noncomputable def fRe_isOfMoreWeight_36 (s0 : Int32) (σ : Hp) : Option Rs := rF (mRe_isOfMoreWeight, 36, [], [sI s0], σ)
set_option maxRecDepth 100000 in
set_option maxHeartbeats 4000000 in
theorem eRe_isOfMoreWeight (x0 : Option Nat) (x1 : Option Nat) (σ : Hp) : rF (mRe_isOfMoreWeight, 0, [(0, sA x0), (1, sA x1)], [], σ) =
  (rcv σ [sA x0] 1).bind fun _ =>
  (cI rF nEv_senderLevel [sA x0] σ).bind fun q1 =>
  (rcv q1.2 [sA x1] 1).bind fun _ =>
  (cI rF nEv_senderLevel [sA x1] q1.2).bind fun q6 =>
  if q6.1 < q1.1 then
    fRe_isOfMoreWeight_31 q6.2
  else
    if ¬ q1.1 = q6.1 then
      fRe_isOfMoreWeight_35 q6.2
    else
      (gfI q6.2 x0 1 9).bind fun v21 =>
      (gfI q6.2 x1 1 9).bind fun v25 =>
      if v25 ≤ v21 then
        fRe_isOfMoreWeight_35 q6.2
      else
        fRe_isOfMoreWeight_31 q6.2
  := (blk_eq sRe_isOfMoreWeight 26 _).trans rfl
set_option maxRecDepth 100000 in
set_option maxHeartbeats 4000000 in
theorem eRe_isOfMoreWeight_31 (σ : Hp) : fRe_isOfMoreWeight_31 σ =
  fRe_isOfMoreWeight_36 (1 : Int32) σ
  := (blk_eq sRe_isOfMoreWeight 26 _).trans rfl
set_option maxRecDepth 100000 in
set_option maxHeartbeats 4000000 in
theorem eRe_isOfMoreWeight_35 (σ : Hp) : fRe_isOfMoreWeight_35 σ =
  fRe_isOfMoreWeight_36 (0 : Int32) σ
  := (blk_eq sRe_isOfMoreWeight 26 _).trans rfl
set_option maxRecDepth 100000 in
set_option maxHeartbeats 4000000 in
theorem eRe_isOfMoreWeight_36 (s0 : Int32) (σ : Hp) : fRe_isOfMoreWeight_36 s0 σ =
  rz s0 σ
  := (blk_eq sRe_isOfMoreWeight 26 _).trans rfl

-- MeshRoom$Resolver.nextOther(J)LMeshRoom$Event;
noncomputable def fRe_nextOther_5 (x0 : Option Nat) (x1 : Int64) (x3 : Option Nat) (x4 : Int32) (σ : Hp) : Option Rs := rF (mRe_nextOther, 5, [(0, sA x0), (1, sJ x1), (3, sA x3), (4, sI x4)], [], σ)
noncomputable def fRe_nextOther_48 (x0 : Option Nat) (x1 : Int64) (x4 : Int32) (x5 : Option Nat) (σ : Hp) : Option Rs := rF (mRe_nextOther, 48, [(0, sA x0), (1, sJ x1), (4, sI x4), (5, sA x5)], [], σ)
noncomputable def fRe_nextOther_51 (x0 : Option Nat) (x1 : Int64) (x3 : Option Nat) (x4 : Int32) (σ : Hp) : Option Rs := rF (mRe_nextOther, 51, [(0, sA x0), (1, sJ x1), (3, sA x3), (4, sI x4)], [], σ)
set_option maxRecDepth 100000 in
set_option maxHeartbeats 4000000 in
theorem eRe_nextOther (x0 : Option Nat) (x1 : Int64) (σ : Hp) : rF (mRe_nextOther, 0, [(0, sA x0), (1, sJ x1)], [], σ) =
  fRe_nextOther_5 x0 x1 none (1 : Int32) σ
  := (blk_eq sRe_nextOther 35 _).trans rfl
set_option maxRecDepth 100000 in
set_option maxHeartbeats 4000000 in
theorem eRe_nextOther_5 (x0 : Option Nat) (x1 : Int64) (x3 : Option Nat) (x4 : Int32) (σ : Hp) : fRe_nextOther_5 x0 x1 x3 x4 σ =
  (gfA σ x0 4 0).bind fun v8 =>
  (gfI σ v8 2 1).bind fun v11 =>
  if v11 < x4 then
    some (some (sA x3), σ)
  else
    (gfA σ x0 4 0).bind fun v18 =>
    (rcv σ [sA v18, sI x4, sJ x1] 2).bind fun _ =>
    (cA rF nHi_pick [sA v18, sI x4, sJ x1] σ).bind fun q24 =>
    if q24.1 = none then
      fRe_nextOther_51 x0 x1 x3 x4 q24.2
    else
      if x3 = none then
        fRe_nextOther_48 x0 x1 x4 q24.1 q24.2
      else
        (rcv q24.2 [sA x0, sA q24.1, sA x3] 4).bind fun _ =>
        (cI rF nRe_isFartherBack [sA x0, sA q24.1, sA x3] q24.2).bind fun q42 =>
        if q42.1 = 0 then
          fRe_nextOther_51 x0 x1 x3 x4 q42.2
        else
          fRe_nextOther_48 x0 x1 x4 q24.1 q42.2
  := (blk_eq sRe_nextOther 35 _).trans rfl
set_option maxRecDepth 100000 in
set_option maxHeartbeats 4000000 in
theorem eRe_nextOther_48 (x0 : Option Nat) (x1 : Int64) (x4 : Int32) (x5 : Option Nat) (σ : Hp) : fRe_nextOther_48 x0 x1 x4 x5 σ =
  fRe_nextOther_51 x0 x1 x5 x4 σ
  := (blk_eq sRe_nextOther 35 _).trans rfl
set_option maxRecDepth 100000 in
set_option maxHeartbeats 4000000 in
theorem eRe_nextOther_51 (x0 : Option Nat) (x1 : Int64) (x3 : Option Nat) (x4 : Int32) (σ : Hp) : fRe_nextOther_51 x0 x1 x3 x4 σ =
  fRe_nextOther_5 x0 x1 x3 (x4 + (1 : Int32)) σ
  := (blk_eq sRe_nextOther 35 _).trans rfl

-- MeshRoom$Resolver.isFartherBack(LMeshRoom$Event;LMeshRoom$Event;)Z
noncomputable def fRe_isFartherBack_44 (σ : Hp) : Option Rs := rF (mRe_isFartherBack, 44, [], [], σ)
noncomputable def fRe_isFartherBack_48 (σ : Hp) : Option Rs := rF (mRe_isFartherBack, 48, [], [], σ)
noncomputable def fRe_isFartherBack_49 (s0 : Int32) (σ : Hp) : Option Rs := rF (mRe_isFartherBack, 49, [], [sI s0], σ)
set_option maxRecDepth 100000 in
set_option maxHeartbeats 4000000 in
theorem eRe_isFartherBack (x0 : Option Nat) (x1 : Option Nat) (x2 : Option Nat) (σ : Hp) : rF (mRe_isFartherBack, 0, [(0, sA x0), (1, sA x1), (2, sA x2)], [], σ) =
  (gfA σ x0 4 5).bind fun v1 =>
  (gfI σ x1 1 0).bind fun v5 =>
  (alI σ v1 v5).bind fun v8 =>
  (gfA σ x0 4 5).bind fun v11 =>
  (gfI σ x2 1 0).bind fun v15 =>
  (alI σ v11 v15).bind fun v18 =>
  if v18 < v8 then
    fRe_isFartherBack_44 σ
  else
    if ¬ v8 = v18 then
      fRe_isFartherBack_48 σ
    else
      (gfI σ x1 1 9).bind fun v34 =>
      (gfI σ x2 1 9).bind fun v38 =>
      if v38 ≤ v34 then
        fRe_isFartherBack_48 σ
      else
        fRe_isFartherBack_44 σ
  := (blk_eq sRe_isFartherBack 32 _).trans rfl
set_option maxRecDepth 100000 in
set_option maxHeartbeats 4000000 in
theorem eRe_isFartherBack_44 (σ : Hp) : fRe_isFartherBack_44 σ =
  fRe_isFartherBack_49 (1 : Int32) σ
  := (blk_eq sRe_isFartherBack 32 _).trans rfl
set_option maxRecDepth 100000 in
set_option maxHeartbeats 4000000 in
theorem eRe_isFartherBack_48 (σ : Hp) : fRe_isFartherBack_48 σ =
  fRe_isFartherBack_49 (0 : Int32) σ
  := (blk_eq sRe_isFartherBack 32 _).trans rfl
set_option maxRecDepth 100000 in
set_option maxHeartbeats 4000000 in
theorem eRe_isFartherBack_49 (s0 : Int32) (σ : Hp) : fRe_isFartherBack_49 s0 σ =
  rz s0 σ
  := (blk_eq sRe_isFartherBack 32 _).trans rfl

-- MeshRoom$Resolver.tryOne(LMeshRoom$Event;JLMeshRoom$State;)J
noncomputable def fRe_tryOne_9 (x0 : Option Nat) (x1 : Option Nat) (x2 : Int64) (x4 : Option Nat) (x5 : Int32) (σ : Hp) : Option Rs := rF (mRe_tryOne, 9, [(0, sA x0), (1, sA x1), (2, sJ x2), (4, sA x4), (5, sI x5)], [], σ)
noncomputable def fRe_tryOne_55 (x0 : Option Nat) (x1 : Option Nat) (x2 : Int64) (x4 : Option Nat) (x5 : Int32) (s0 : Option Nat) (s1 : Int32) (s2 : Option Nat) (σ : Hp) : Option Rs := rF (mRe_tryOne, 55, [(0, sA x0), (1, sA x1), (2, sJ x2), (4, sA x4), (5, sI x5)], [sA s2, sI s1, sA s0], σ)
noncomputable def fRe_tryOne_79 (x1 : Option Nat) (x2 : Int64) (σ : Hp) : Option Rs := rF (mRe_tryOne, 79, [(1, sA x1), (2, sJ x2)], [], σ)
set_option maxRecDepth 100000 in
set_option maxHeartbeats 4000000 in
theorem eRe_tryOne (x0 : Option Nat) (x1 : Option Nat) (x2 : Int64) (x4 : Option Nat) (σ : Hp) : rF (mRe_tryOne, 0, [(0, sA x0), (1, sA x1), (2, sJ x2), (4, sA x4)], [], σ) =
  if ¬ x1 = none then
    fRe_tryOne_9 x0 x1 x2 x4 (0 : Int32) σ
  else
    some (some (sJ (0 : Int64)), σ)
  := (blk_eq sRe_tryOne 51 _).trans rfl
set_option maxRecDepth 100000 in
set_option maxHeartbeats 4000000 in
theorem eRe_tryOne_9 (x0 : Option Nat) (x1 : Option Nat) (x2 : Int64) (x4 : Option Nat) (x5 : Int32) (σ : Hp) : fRe_tryOne_9 x0 x1 x2 x4 x5 σ =
  if (9 : Int32) ≤ x5 then
    (gfA σ x0 4 3).bind fun v63 =>
    (rcv σ [sA v63, sA x1] 6).bind fun _ =>
    (cI rF nSt_allows [sA v63, sA x1] σ).bind fun q67 =>
    if q67.1 = 0 then
      fRe_tryOne_79 x1 x2 q67.2
    else
      (rcv q67.2 [sA x4, sA x1] 6).bind fun _ =>
      (cV rF nSt_put [sA x4, sA x1] q67.2).bind fun q76 =>
      fRe_tryOne_79 x1 x2 q76
  else
    (gfA σ x4 6 0).bind fun v18 =>
    (alA σ v18 x5).bind fun v23 =>
    (gfA σ x0 4 3).bind fun v27 =>
    (gfA σ v27 6 0).bind fun v30 =>
    if v23 = none then
      (gfA σ x1 1 6).bind fun v46 =>
      (gfA σ v46 6 0).bind fun v49 =>
      (alA σ v49 x5).bind fun v54 =>
      fRe_tryOne_55 x0 x1 x2 x4 x5 v30 x5 v54 σ
    else
      fRe_tryOne_55 x0 x1 x2 x4 x5 v30 x5 v23 σ
  := (blk_eq sRe_tryOne 51 _).trans rfl
set_option maxRecDepth 100000 in
set_option maxHeartbeats 4000000 in
theorem eRe_tryOne_55 (x0 : Option Nat) (x1 : Option Nat) (x2 : Int64) (x4 : Option Nat) (x5 : Int32) (s0 : Option Nat) (s1 : Int32) (s2 : Option Nat) (σ : Hp) : fRe_tryOne_55 x0 x1 x2 x4 x5 s0 s1 s2 σ =
  (asA σ s0 s1 s2).bind fun σ55 =>
  fRe_tryOne_9 x0 x1 x2 x4 (x5 + (1 : Int32)) σ55
  := (blk_eq sRe_tryOne 51 _).trans rfl
set_option maxRecDepth 100000 in
set_option maxHeartbeats 4000000 in
theorem eRe_tryOne_79 (x1 : Option Nat) (x2 : Int64) (σ : Hp) : fRe_tryOne_79 x1 x2 σ =
  (gfI σ x1 1 0).bind fun v81 =>
  (cJ rF nRm_bit [sI v81] σ).bind fun q84 =>
  some (some (sJ (x2 &&& (q84.1 ^^^ (-1 : Int64)))), q84.2)
  := (blk_eq sRe_tryOne 51 _).trans rfl

-- MeshRoom$Resolver.findPlaces(LMeshRoom$State;)V
noncomputable def fRe_findPlaces_17 (x0 : Option Nat) (x2 : Option Nat) (x3 : Int32) (σ : Hp) : Option Rs := rF (mRe_findPlaces, 17, [(0, sA x0), (2, sA x2), (3, sI x3)], [], σ)
noncomputable def fRe_findPlaces_53 (x0 : Option Nat) (σ : Hp) : Option Rs := rF (mRe_findPlaces, 53, [(0, sA x0)], [], σ)
noncomputable def fRe_findPlaces_55 (x0 : Option Nat) (x3 : Int32) (σ : Hp) : Option Rs := rF (mRe_findPlaces, 55, [(0, sA x0), (3, sI x3)], [], σ)
set_option maxRecDepth 100000 in
set_option maxHeartbeats 4000000 in
theorem eRe_findPlaces (x0 : Option Nat) (x1 : Option Nat) (σ : Hp) : rF (mRe_findPlaces, 0, [(0, sA x0), (1, sA x1)], [], σ) =
  (gfA σ x0 4 4).bind fun v1 =>
  (cV rF nAr_fill [sA v1, sI (-1 : Int32)] σ).bind fun q5 =>
  (gfA q5 x1 6 0).bind fun v9 =>
  (alA q5 v9 (1 : Int32)).bind fun v13 =>
  fRe_findPlaces_17 x0 v13 (0 : Int32) q5
  := (blk_eq sRe_findPlaces 55 _).trans rfl
set_option maxRecDepth 100000 in
set_option maxHeartbeats 4000000 in
theorem eRe_findPlaces_17 (x0 : Option Nat) (x2 : Option Nat) (x3 : Int32) (σ : Hp) : fRe_findPlaces_17 x0 x2 x3 σ =
  if (40 : Int32) ≤ x3 then
    fRe_findPlaces_53 x0 σ
  else
    if x2 = none then
      fRe_findPlaces_53 x0 σ
    else
      (gfA σ x0 4 4).bind fun v28 =>
      (gfI σ x2 1 0).bind fun v32 =>
      (asI σ v28 v32 x3).bind fun σ36 =>
      (gfA σ36 x2 1 6).bind fun v38 =>
      (gfA σ36 v38 6 0).bind fun v41 =>
      (alA σ36 v41 (1 : Int32)).bind fun v45 =>
      fRe_findPlaces_17 x0 v45 (x3 + (1 : Int32)) σ36
  := (blk_eq sRe_findPlaces 55 _).trans rfl
set_option maxRecDepth 100000 in
set_option maxHeartbeats 4000000 in
theorem eRe_findPlaces_53 (x0 : Option Nat) (σ : Hp) : fRe_findPlaces_53 x0 σ =
  fRe_findPlaces_55 x0 (1 : Int32) σ
  := (blk_eq sRe_findPlaces 55 _).trans rfl
set_option maxRecDepth 100000 in
set_option maxHeartbeats 4000000 in
theorem eRe_findPlaces_55 (x0 : Option Nat) (x3 : Int32) (σ : Hp) : fRe_findPlaces_55 x0 x3 σ =
  (gfA σ x0 4 0).bind fun v57 =>
  (gfI σ v57 2 1).bind fun v60 =>
  if v60 < x3 then
    some (none, σ)
  else
    (gfA σ x0 4 5).bind fun v67 =>
    (gfA σ x0 4 0).bind fun v73 =>
    (rcv σ [sA v73, sI x3] 2).bind fun _ =>
    (cA rF nHi_find [sA v73, sI x3] σ).bind fun q77 =>
    (rcv q77.2 [sA x0, sA q77.1] 4).bind fun _ =>
    (cI rF nRe_placeOf [sA x0, sA q77.1] q77.2).bind fun q80 =>
    (asI q80.2 v67 x3 q80.1).bind fun σ83 =>
    fRe_findPlaces_55 x0 (x3 + (1 : Int32)) σ83
  := (blk_eq sRe_findPlaces 55 _).trans rfl

-- MeshRoom$Resolver.placeOf(LMeshRoom$Event;)I
noncomputable def fRe_placeOf_17 (x0 : Option Nat) (s0 : Option Nat) (σ : Hp) : Option Rs := rF (mRe_placeOf, 17, [(0, sA x0)], [sA s0], σ)
noncomputable def fRe_placeOf_53 (s0 : Int32) (σ : Hp) : Option Rs := rF (mRe_placeOf, 53, [], [sI s0], σ)
set_option maxRecDepth 100000 in
set_option maxHeartbeats 4000000 in
theorem eRe_placeOf (x0 : Option Nat) (x1 : Option Nat) (σ : Hp) : rF (mRe_placeOf, 0, [(0, sA x0), (1, sA x1)], [], σ) =
  if ¬ x1 = none then
    (gfA σ x1 1 6).bind fun v9 =>
    (gfA σ v9 6 0).bind fun v12 =>
    (alA σ v12 (1 : Int32)).bind fun v16 =>
    fRe_placeOf_17 x0 v16 σ
  else
    fRe_placeOf_17 x0 none σ
  := (blk_eq sRe_placeOf 36 _).trans rfl
set_option maxRecDepth 100000 in
set_option maxHeartbeats 4000000 in
theorem eRe_placeOf_17 (x0 : Option Nat) (s0 : Option Nat) (σ : Hp) : fRe_placeOf_17 x0 s0 σ =
  if ¬ s0 = none then
    (gfA σ x0 4 4).bind fun v26 =>
    (gfI σ s0 1 0).bind fun v30 =>
    (alI σ v26 v30).bind fun v33 =>
    if v33 = (-1 : Int32) then
      (gfA σ x0 4 5).bind fun v45 =>
      (gfI σ s0 1 0).bind fun v49 =>
      (alI σ v45 v49).bind fun v52 =>
      fRe_placeOf_53 v52 σ
    else
      fRe_placeOf_53 v33 σ
  else
    some (some (sI (100 : Int32)), σ)
  := (blk_eq sRe_placeOf 36 _).trans rfl
set_option maxRecDepth 100000 in
set_option maxHeartbeats 4000000 in
theorem eRe_placeOf_53 (s0 : Int32) (σ : Hp) : fRe_placeOf_53 s0 σ =
  some (some (sI s0), σ)
  := (blk_eq sRe_placeOf 36 _).trans rfl

-- MeshRoom$Resolver.restoreAgreed(LMeshRoom$State;)V
noncomputable def fRe_restoreAgreed_2 (x0 : Option Nat) (x1 : Option Nat) (x2 : Int32) (σ : Hp) : Option Rs := rF (mRe_restoreAgreed, 2, [(0, sA x0), (1, sA x1), (2, sI x2)], [], σ)
noncomputable def fRe_restoreAgreed_32 (x0 : Option Nat) (x1 : Option Nat) (x2 : Int32) (σ : Hp) : Option Rs := rF (mRe_restoreAgreed, 32, [(0, sA x0), (1, sA x1), (2, sI x2)], [], σ)
set_option maxRecDepth 100000 in
set_option maxHeartbeats 4000000 in
theorem eRe_restoreAgreed (x0 : Option Nat) (x1 : Option Nat) (σ : Hp) : rF (mRe_restoreAgreed, 0, [(0, sA x0), (1, sA x1)], [], σ) =
  fRe_restoreAgreed_2 x0 x1 (0 : Int32) σ
  := (blk_eq sRe_restoreAgreed 27 _).trans rfl
set_option maxRecDepth 100000 in
set_option maxHeartbeats 4000000 in
theorem eRe_restoreAgreed_2 (x0 : Option Nat) (x1 : Option Nat) (x2 : Int32) (σ : Hp) : fRe_restoreAgreed_2 x0 x1 x2 σ =
  if (9 : Int32) ≤ x2 then
    some (none, σ)
  else
    (gfA σ x0 4 1).bind fun v9 =>
    (alZ σ v9 x2).bind fun v13 =>
    if v13 = 0 then
      fRe_restoreAgreed_32 x0 x1 x2 σ
    else
      (gfA σ x1 6 0).bind fun v18 =>
      (gfA σ x0 4 2).bind fun v23 =>
      (gfA σ v23 6 0).bind fun v26 =>
      (alA σ v26 x2).bind fun v30 =>
      (asA σ v18 x2 v30).bind fun σ31 =>
      fRe_restoreAgreed_32 x0 x1 x2 σ31
  := (blk_eq sRe_restoreAgreed 27 _).trans rfl
set_option maxRecDepth 100000 in
set_option maxHeartbeats 4000000 in
theorem eRe_restoreAgreed_32 (x0 : Option Nat) (x1 : Option Nat) (x2 : Int32) (σ : Hp) : fRe_restoreAgreed_32 x0 x1 x2 σ =
  fRe_restoreAgreed_2 x0 x1 (x2 + (1 : Int32)) σ
  := (blk_eq sRe_restoreAgreed 27 _).trans rfl
