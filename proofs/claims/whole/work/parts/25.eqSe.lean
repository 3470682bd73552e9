/-! Equations of the stretches (printed by wip/gen/tabs.py). -/
-- MeshRoom$Server.<init>(J)V
set_option maxRecDepth 100000 in
set_option maxHeartbeats 4000000 in
theorem eSe_init (x0 : Option Nat) (x1 : Int64) (σ : Hp) : rF (mSe_init, 0, [(0, sA x0), (1, sJ x1)], [], σ) =
  (x0).bind fun _ =>
  (pfJ σ x0 5 1 x1).bind fun σ6 =>
  some (none, σ6)
  := (blk_eq sSe_init 11 _).trans rfl

-- MeshRoom$Server.standingOf(I)I
noncomputable def fSe_standingOf_42 (s0 : Int32) (σ : Hp) : Option Rs := rF (mSe_standingOf, 42, [], [sI s0], σ)
set_option maxRecDepth 100000 in
set_option maxHeartbeats 4000000 in
theorem eSe_standingOf (x0 : Option Nat) (x1 : Int32) (σ : Hp) : rF (mSe_standingOf, 0, [(0, sA x0), (1, sI x1)], [], σ) =
  (gfJ σ x0 5 1).bind fun v2 =>
  (cI rF nRm_isIn [sI x1, sJ v2] σ).bind fun q5 =>
  if q5.1 = 0 then
    (gfJ q5.2 x0 5 2).bind fun v15 =>
    (cI rF nRm_isIn [sI x1, sJ v15] q5.2).bind fun q18 =>
    if q18.1 = 0 then
      (gfJ q18.2 x0 5 0).bind fun v28 =>
      (cI rF nRm_isIn [sI x1, sJ v28] q18.2).bind fun q31 =>
      if q31.1 = 0 then
        fSe_standingOf_42 (0 : Int32) q31.2
      else
        fSe_standingOf_42 (1 : Int32) q31.2
    else
      some (some (sI (3 : Int32)), q18.2)
  else
    some (some (sI (2 : Int32)), q5.2)
  := (blk_eq sSe_standingOf 28 _).trans rfl
set_option maxRecDepth 100000 in
set_option maxHeartbeats 4000000 in
theorem eSe_standingOf_42 (s0 : Int32) (σ : Hp) : fSe_standingOf_42 s0 σ =
  some (some (sI s0), σ)
  := (blk_eq sSe_standingOf 28 _).trans rfl

-- MeshRoom$Server.isSettled(I)Z
set_option maxRecDepth 100000 in
set_option maxHeartbeats 4000000 in
theorem eSe_isSettled (x0 : Option Nat) (x1 : Int32) (σ : Hp) : rF (mSe_isSettled, 0, [(0, sA x0), (1, sI x1)], [], σ) =
  (gfJ σ x0 5 1).bind fun v2 =>
  (gfJ σ x0 5 2).bind fun v6 =>
  (cI rF nRm_isIn [sI x1, sJ (v2 ||| v6)] σ).bind fun q10 =>
  rz q10.1 q10.2
  := (blk_eq sSe_isSettled 13 _).trans rfl

-- MeshRoom$Server.unsettled(J)J
set_option maxRecDepth 100000 in
set_option maxHeartbeats 4000000 in
theorem eSe_unsettled (x0 : Option Nat) (x1 : Int64) (σ : Hp) : rF (mSe_unsettled, 0, [(0, sA x0), (1, sJ x1)], [], σ) =
  (gfJ σ x0 5 1).bind fun v2 =>
  (gfJ σ x0 5 2).bind fun v6 =>
  some (some (sJ (x1 &&& ((v2 ||| v6) ^^^ (-1 : Int64)))), σ)
  := (blk_eq sSe_unsettled 15 _).trans rfl

-- MeshRoom$Server.settle(LMeshRoom$Event;)V
noncomputable def fSe_settle_62 (σ : Hp) : Option Rs := rF (mSe_settle, 62, [], [], σ)
set_option maxRecDepth 100000 in
set_option maxHeartbeats 4000000 in
theorem eSe_settle (x0 : Option Nat) (x1 : Option Nat) (σ : Hp) : rF (mSe_settle, 0, [(0, sA x0), (1, sA x1)], [], σ) =
  (gfJ σ x0 5 0).bind fun v2 =>
  (gfI σ x1 1 0).bind fun v6 =>
  (cJ rF nRm_bit [sI v6] σ).bind fun q9 =>
  (pfJ q9.2 x0 5 0 (v2 &&& (q9.1 ^^^ (-1 : Int64)))).bind fun σ17 =>
  (gfI σ17 x1 1 12).bind fun v21 =>
  if v21 = 0 then
    (gfJ σ17 x0 5 2).bind fun v48 =>
    (gfI σ17 x1 1 0).bind fun v52 =>
    (cJ rF nRm_bit [sI v52] σ17).bind fun q55 =>
    (pfJ q55.2 x0 5 2 (v48 ||| q55.1)).bind fun σ59 =>
    fSe_settle_62 σ59
  else
    (gfJ σ17 x0 5 1).bind fun v29 =>
    (gfI σ17 x1 1 0).bind fun v33 =>
    (cJ rF nRm_bit [sI v33] σ17).bind fun q36 =>
    (pfJ q36.2 x0 5 1 (v29 ||| q36.1)).bind fun σ40 =>
    fSe_settle_62 σ40
  := (blk_eq sSe_settle 36 _).trans rfl
set_option maxRecDepth 100000 in
set_option maxHeartbeats 4000000 in
theorem eSe_settle_62 (σ : Hp) : fSe_settle_62 σ =
  some (none, σ)
  := (blk_eq sSe_settle 36 _).trans rfl
