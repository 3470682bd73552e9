/-! Equations of the stretches (printed by wip/gen/tabs.py). -/
-- MeshRoom$History.<init>()V
set_option maxRecDepth 100000 in
set_option maxHeartbeats 4000000 in
theorem eHi_init (x0 : Option Nat) (σ : Hp) : rF (mHi_init, 0, [(0, sA x0)], [], σ) =
  (x0).bind fun _ =>
  (mkA σ 3 (41 : Int32)).bind fun σ7 =>
  (pfA σ7 x0 2 0 (some (Prod.fst σ))).bind fun σ10 =>
  some (none, σ10)
  := (blk_eq sHi_init 12 _).trans rfl

-- MeshRoom$History.keep(LMeshRoom$Event;)V
noncomputable def fHi_keep_29 (σ : Hp) : Option Rs := rF (mHi_keep, 29, [], [], σ)
set_option maxRecDepth 100000 in
set_option maxHeartbeats 4000000 in
theorem eHi_keep (x0 : Option Nat) (x1 : Option Nat) (σ : Hp) : rF (mHi_keep, 0, [(0, sA x0), (1, sA x1)], [], σ) =
  (gfI σ x0 2 1).bind fun v1 =>
  if (40 : Int32) ≤ v1 then
    fHi_keep_29 σ
  else
    (gfI σ x0 2 1).bind fun v11 =>
    (pfI σ x0 2 1 (v11 + (1 : Int32))).bind fun σ16 =>
    (gfA σ16 x0 2 0).bind fun v20 =>
    (gfI σ16 x0 2 1).bind fun v24 =>
    (asA σ16 v20 v24 x1).bind fun σ28 =>
    fHi_keep_29 σ28
  := (blk_eq sHi_keep 22 _).trans rfl
set_option maxRecDepth 100000 in
set_option maxHeartbeats 4000000 in
theorem eHi_keep_29 (σ : Hp) : fHi_keep_29 σ =
  some (none, σ)
  := (blk_eq sHi_keep 22 _).trans rfl

-- MeshRoom$History.has(I)Z
noncomputable def fHi_has_17 (σ : Hp) : Option Rs := rF (mHi_has, 17, [], [], σ)
noncomputable def fHi_has_18 (s0 : Int32) (σ : Hp) : Option Rs := rF (mHi_has, 18, [], [sI s0], σ)
set_option maxRecDepth 100000 in
set_option maxHeartbeats 4000000 in
theorem eHi_has (x0 : Option Nat) (x1 : Int32) (σ : Hp) : rF (mHi_has, 0, [(0, sA x0), (1, sI x1)], [], σ) =
  if x1 < (1 : Int32) then
    fHi_has_17 σ
  else
    (gfI σ x0 2 1).bind fun v7 =>
    if v7 < x1 then
      fHi_has_17 σ
    else
      fHi_has_18 (1 : Int32) σ
  := (blk_eq sHi_has 16 _).trans rfl
set_option maxRecDepth 100000 in
set_option maxHeartbeats 4000000 in
theorem eHi_has_17 (σ : Hp) : fHi_has_17 σ =
  fHi_has_18 (0 : Int32) σ
  := (blk_eq sHi_has 16 _).trans rfl
set_option maxRecDepth 100000 in
set_option maxHeartbeats 4000000 in
theorem eHi_has_18 (s0 : Int32) (σ : Hp) : fHi_has_18 s0 σ =
  rz s0 σ
  := (blk_eq sHi_has 16 _).trans rfl

-- MeshRoom$History.find(I)LMeshRoom$Event;
noncomputable def fHi_find_18 (s0 : Option Nat) (σ : Hp) : Option Rs := rF (mHi_find, 18, [], [sA s0], σ)
set_option maxRecDepth 100000 in
set_option maxHeartbeats 4000000 in
theorem eHi_find (x0 : Option Nat) (x1 : Int32) (σ : Hp) : rF (mHi_find, 0, [(0, sA x0), (1, sI x1)], [], σ) =
  (rcv σ [sA x0, sI x1] 2).bind fun _ =>
  (cI rF nHi_has [sA x0, sI x1] σ).bind fun q2 =>
  if q2.1 = 0 then
    fHi_find_18 none q2.2
  else
    (gfA q2.2 x0 2 0).bind fun v9 =>
    (alA q2.2 v9 x1).bind fun v13 =>
    fHi_find_18 v13 q2.2
  := (blk_eq sHi_find 16 _).trans rfl
set_option maxRecDepth 100000 in
set_option maxHeartbeats 4000000 in
theorem eHi_find_18 (s0 : Option Nat) (σ : Hp) : fHi_find_18 s0 σ =
  some (some (sA s0), σ)
  := (blk_eq sHi_find 16 _).trans rfl

-- MeshRoom$History.pick(IJ)LMeshRoom$Event;
noncomputable def fHi_pick_17 (s0 : Option Nat) (σ : Hp) : Option Rs := rF (mHi_pick, 17, [], [sA s0], σ)
set_option maxRecDepth 100000 in
set_option maxHeartbeats 4000000 in
theorem eHi_pick (x0 : Option Nat) (x1 : Int32) (x2 : Int64) (σ : Hp) : rF (mHi_pick, 0, [(0, sA x0), (1, sI x1), (2, sJ x2)], [], σ) =
  (cI rF nRm_isIn [sI x1, sJ x2] σ).bind fun q2 =>
  if q2.1 = 0 then
    fHi_pick_17 none q2.2
  else
    (rcv q2.2 [sA x0, sI x1] 2).bind fun _ =>
    (cA rF nHi_find [sA x0, sI x1] q2.2).bind fun q10 =>
    fHi_pick_17 q10.1 q10.2
  := (blk_eq sHi_pick 15 _).trans rfl
set_option maxRecDepth 100000 in
set_option maxHeartbeats 4000000 in
theorem eHi_pick_17 (s0 : Option Nat) (σ : Hp) : fHi_pick_17 s0 σ =
  some (some (sA s0), σ)
  := (blk_eq sHi_pick 15 _).trans rfl
