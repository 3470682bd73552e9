/-! Equations of the stretches (printed by wip/gen/tabs.py). -/
-- MeshRoom$Event.<init>(IIIIJ)V
set_option maxRecDepth 100000 in
set_option maxHeartbeats 4000000 in
theorem eEv_init (x0 : Option Nat) (x1 : Int32) (x2 : Int32) (x3 : Int32) (x4 : Int32) (x5 : Int64) (σ : Hp) : rF (mEv_init, 0, [(0, sA x0), (1, sI x1), (2, sI x2), (3, sI x3), (4, sI x4), (5, sJ x5)], [], σ) =
  (x0).bind fun _ =>
  (rcv (mkO σ 6) [sA (some (Prod.fst σ))] 6).bind fun _ =>
  (cV rF nSt_init [sA (some (Prod.fst σ))] (mkO σ 6)).bind fun q9 =>
  (pfA q9 x0 1 5 (some (Prod.fst σ))).bind fun σ12 =>
  (rcv (mkO σ12 6) [sA (some (Prod.fst σ12))] 6).bind fun _ =>
  (cV rF nSt_init [sA (some (Prod.fst σ12))] (mkO σ12 6)).bind fun q20 =>
  (pfA q20 x0 1 6 (some (Prod.fst σ12))).bind fun σ23 =>
  (rcv (mkO σ23 6) [sA (some (Prod.fst σ23))] 6).bind fun _ =>
  (cV rF nSt_init [sA (some (Prod.fst σ23))] (mkO σ23 6)).bind fun q31 =>
  (pfA q31 x0 1 7 (some (Prod.fst σ23))).bind fun σ34 =>
  (pfI σ34 x0 1 0 x1).bind fun σ39 =>
  (pfI σ39 x0 1 1 x2).bind fun σ44 =>
  (pfI σ44 x0 1 2 x3).bind fun σ49 =>
  (pfI σ49 x0 1 3 x4).bind fun σ55 =>
  (pfJ σ55 x0 1 4 x5).bind fun σ61 =>
  some (none, σ61)
  := (blk_eq sEv_init 38 _).trans rfl

-- MeshRoom$Event.key()I
set_option maxRecDepth 100000 in
set_option maxHeartbeats 4000000 in
theorem eEv_key (x0 : Option Nat) (σ : Hp) : rF (mEv_key, 0, [(0, sA x0)], [], σ) =
  (gfI σ x0 1 1).bind fun v1 =>
  if v1 = (0 : Int32) then
    some (some (sI (0 : Int32)), σ)
  else
   if v1 = (1 : Int32) then
    (gfI σ x0 1 3).bind fun v62 =>
    some (some (sI ((3 : Int32) + v62)), σ)
   else
    if v1 = (2 : Int32) then
    (gfI σ x0 1 3).bind fun v62 =>
    some (some (sI ((3 : Int32) + v62)), σ)
    else
     if v1 = (3 : Int32) then
    (gfI σ x0 1 3).bind fun v62 =>
    some (some (sI ((3 : Int32) + v62)), σ)
     else
      if v1 = (4 : Int32) then
    (gfI σ x0 1 3).bind fun v62 =>
    some (some (sI ((3 : Int32) + v62)), σ)
      else
       if v1 = (5 : Int32) then
    some (some (sI (1 : Int32)), σ)
       else
        if v1 = (6 : Int32) then
    some (some (sI (2 : Int32)), σ)
        else
         if v1 = (7 : Int32) then
    some (some (sI (-1 : Int32)), σ)
         else
            (gfI σ x0 1 3).bind fun v62 =>
            some (some (sI ((3 : Int32) + v62)), σ)
  := (blk_eq sEv_key 21 _).trans rfl

-- MeshRoom$Event.isOfMembership()Z
noncomputable def fEv_isOfMembership_20 (σ : Hp) : Option Rs := rF (mEv_isOfMembership, 20, [], [], σ)
noncomputable def fEv_isOfMembership_21 (s0 : Int32) (σ : Hp) : Option Rs := rF (mEv_isOfMembership, 21, [], [sI s0], σ)
set_option maxRecDepth 100000 in
set_option maxHeartbeats 4000000 in
theorem eEv_isOfMembership (x0 : Option Nat) (σ : Hp) : rF (mEv_isOfMembership, 0, [(0, sA x0)], [], σ) =
  (gfI σ x0 1 1).bind fun v1 =>
  if v1 < (1 : Int32) then
    fEv_isOfMembership_20 σ
  else
    (gfI σ x0 1 1).bind fun v9 =>
    if (4 : Int32) < v9 then
      fEv_isOfMembership_20 σ
    else
      fEv_isOfMembership_21 (1 : Int32) σ
  := (blk_eq sEv_isOfMembership 17 _).trans rfl
set_option maxRecDepth 100000 in
set_option maxHeartbeats 4000000 in
theorem eEv_isOfMembership_20 (σ : Hp) : fEv_isOfMembership_20 σ =
  fEv_isOfMembership_21 (0 : Int32) σ
  := (blk_eq sEv_isOfMembership 17 _).trans rfl
set_option maxRecDepth 100000 in
set_option maxHeartbeats 4000000 in
theorem eEv_isOfMembership_21 (s0 : Int32) (σ : Hp) : fEv_isOfMembership_21 s0 σ =
  rz s0 σ
  := (blk_eq sEv_isOfMembership 17 _).trans rfl

-- MeshRoom$Event.isHeavy()Z
noncomputable def fEv_isHeavy_44 (σ : Hp) : Option Rs := rF (mEv_isHeavy, 44, [], [], σ)
noncomputable def fEv_isHeavy_48 (σ : Hp) : Option Rs := rF (mEv_isHeavy, 48, [], [], σ)
noncomputable def fEv_isHeavy_49 (s0 : Int32) (σ : Hp) : Option Rs := rF (mEv_isHeavy, 49, [], [sI s0], σ)
set_option maxRecDepth 100000 in
set_option maxHeartbeats 4000000 in
theorem eEv_isHeavy (x0 : Option Nat) (σ : Hp) : rF (mEv_isHeavy, 0, [(0, sA x0)], [], σ) =
  (gfI σ x0 1 1).bind fun v1 =>
  if v1 = (5 : Int32) then
    fEv_isHeavy_44 σ
  else
    (gfI σ x0 1 1).bind fun v9 =>
    if v9 = (6 : Int32) then
      fEv_isHeavy_44 σ
    else
      (gfI σ x0 1 1).bind fun v18 =>
      if v18 = (4 : Int32) then
        fEv_isHeavy_44 σ
      else
        (gfI σ x0 1 1).bind fun v26 =>
        if ¬ v26 = (3 : Int32) then
          fEv_isHeavy_48 σ
        else
          (gfI σ x0 1 2).bind fun v34 =>
          (gfI σ x0 1 3).bind fun v38 =>
          if v34 = v38 then
            fEv_isHeavy_48 σ
          else
            fEv_isHeavy_44 σ
  := (blk_eq sEv_isHeavy 30 _).trans rfl
set_option maxRecDepth 100000 in
set_option maxHeartbeats 4000000 in
theorem eEv_isHeavy_44 (σ : Hp) : fEv_isHeavy_44 σ =
  fEv_isHeavy_49 (1 : Int32) σ
  := (blk_eq sEv_isHeavy 30 _).trans rfl
set_option maxRecDepth 100000 in
set_option maxHeartbeats 4000000 in
theorem eEv_isHeavy_48 (σ : Hp) : fEv_isHeavy_48 σ =
  fEv_isHeavy_49 (0 : Int32) σ
  := (blk_eq sEv_isHeavy 30 _).trans rfl
set_option maxRecDepth 100000 in
set_option maxHeartbeats 4000000 in
theorem eEv_isHeavy_49 (s0 : Int32) (σ : Hp) : fEv_isHeavy_49 s0 σ =
  rz s0 σ
  := (blk_eq sEv_isHeavy 30 _).trans rfl

-- MeshRoom$Event.senderLevel()I
set_option maxRecDepth 100000 in
set_option maxHeartbeats 4000000 in
theorem eEv_senderLevel (x0 : Option Nat) (σ : Hp) : rF (mEv_senderLevel, 0, [(0, sA x0)], [], σ) =
  (gfA σ x0 1 6).bind fun v1 =>
  (gfI σ x0 1 2).bind fun v5 =>
  (rcv σ [sA v1, sI v5] 6).bind fun _ =>
  (cI rF nSt_level [sA v1, sI v5] σ).bind fun q8 =>
  some (some (sI q8.1), q8.2)
  := (blk_eq sEv_senderLevel 11 _).trans rfl

-- MeshRoom$Event.takeValue(I)V
noncomputable def fEv_takeValue_45 (x0 : Option Nat) (x1 : Int32) (σ : Hp) : Option Rs := rF (mEv_takeValue, 45, [(0, sA x0), (1, sI x1)], [], σ)
noncomputable def fEv_takeValue_50 (σ : Hp) : Option Rs := rF (mEv_takeValue, 50, [], [], σ)
set_option maxRecDepth 100000 in
set_option maxHeartbeats 4000000 in
theorem eEv_takeValue (x0 : Option Nat) (x1 : Int32) (σ : Hp) : rF (mEv_takeValue, 0, [(0, sA x0), (1, sI x1)], [], σ) =
  (gfI σ x0 1 1).bind fun v1 =>
  if ¬ v1 = (5 : Int32) then
    (gfI σ x0 1 1).bind fun v28 =>
    if v28 = (6 : Int32) then
      fEv_takeValue_45 x0 x1 σ
    else
      (gfI σ x0 1 1).bind fun v37 =>
      if ¬ v37 = (7 : Int32) then
        fEv_takeValue_50 σ
      else
        fEv_takeValue_45 x0 x1 σ
  else
    (gfA σ x0 1 5).bind fun v10 =>
    (gfI σ x0 1 3).bind fun v14 =>
    (rcv σ [sA v10, sI v14, sI x1] 6).bind fun _ =>
    (cI rF nSt_levelsWith [sA v10, sI v14, sI x1] σ).bind fun q18 =>
    (pfI q18.2 x0 1 8 q18.1).bind fun σ21 =>
    fEv_takeValue_50 σ21
  := (blk_eq sEv_takeValue 30 _).trans rfl
set_option maxRecDepth 100000 in
set_option maxHeartbeats 4000000 in
theorem eEv_takeValue_45 (x0 : Option Nat) (x1 : Int32) (σ : Hp) : fEv_takeValue_45 x0 x1 σ =
  (pfI σ x0 1 8 x1).bind fun σ47 =>
  fEv_takeValue_50 σ47
  := (blk_eq sEv_takeValue 30 _).trans rfl
set_option maxRecDepth 100000 in
set_option maxHeartbeats 4000000 in
theorem eEv_takeValue_50 (σ : Hp) : fEv_takeValue_50 σ =
  some (none, σ)
  := (blk_eq sEv_takeValue 30 _).trans rfl

-- MeshRoom$Event.takeAuths()V
noncomputable def fEv_takeAuths_37 (x0 : Option Nat) (σ : Hp) : Option Rs := rF (mEv_takeAuths, 37, [(0, sA x0)], [], σ)
noncomputable def fEv_takeAuths_53 (x0 : Option Nat) (σ : Hp) : Option Rs := rF (mEv_takeAuths, 53, [(0, sA x0)], [], σ)
noncomputable def fEv_takeAuths_58 (σ : Hp) : Option Rs := rF (mEv_takeAuths, 58, [], [], σ)
set_option maxRecDepth 100000 in
set_option maxHeartbeats 4000000 in
theorem eEv_takeAuths (x0 : Option Nat) (σ : Hp) : rF (mEv_takeAuths, 0, [(0, sA x0)], [], σ) =
  (rcv σ [sA x0, sI (0 : Int32)] 1).bind fun _ =>
  (cV rF nEv_takeAuth [sA x0, sI (0 : Int32)] σ).bind fun q2 =>
  (rcv q2 [sA x0, sI (1 : Int32)] 1).bind fun _ =>
  (cV rF nEv_takeAuth [sA x0, sI (1 : Int32)] q2).bind fun q7 =>
  (gfI q7 x0 1 2).bind fun v13 =>
  (rcv q7 [sA x0, sI ((3 : Int32) + v13)] 1).bind fun _ =>
  (cV rF nEv_takeAuth [sA x0, sI ((3 : Int32) + v13)] q7).bind fun q17 =>
  (rcv q17 [sA x0] 1).bind fun _ =>
  (cI rF nEv_isOfMembership [sA x0] q17).bind fun q21 =>
  if q21.1 = 0 then
    fEv_takeAuths_37 x0 q21.2
  else
    (gfI q21.2 x0 1 3).bind fun v30 =>
    (rcv q21.2 [sA x0, sI ((3 : Int32) + v30)] 1).bind fun _ =>
    (cV rF nEv_takeAuth [sA x0, sI ((3 : Int32) + v30)] q21.2).bind fun q34 =>
    fEv_takeAuths_37 x0 q34
  := (blk_eq sEv_takeAuths 38 _).trans rfl
set_option maxRecDepth 100000 in
set_option maxHeartbeats 4000000 in
theorem eEv_takeAuths_37 (x0 : Option Nat) (σ : Hp) : fEv_takeAuths_37 x0 σ =
  (gfI σ x0 1 1).bind fun v38 =>
  if v38 = (1 : Int32) then
    fEv_takeAuths_53 x0 σ
  else
    (gfI σ x0 1 1).bind fun v46 =>
    if ¬ v46 = (2 : Int32) then
      fEv_takeAuths_58 σ
    else
      fEv_takeAuths_53 x0 σ
  := (blk_eq sEv_takeAuths 38 _).trans rfl
set_option maxRecDepth 100000 in
set_option maxHeartbeats 4000000 in
theorem eEv_takeAuths_53 (x0 : Option Nat) (σ : Hp) : fEv_takeAuths_53 x0 σ =
  (rcv σ [sA x0, sI (2 : Int32)] 1).bind fun _ =>
  (cV rF nEv_takeAuth [sA x0, sI (2 : Int32)] σ).bind fun q55 =>
  fEv_takeAuths_58 q55
  := (blk_eq sEv_takeAuths 38 _).trans rfl
set_option maxRecDepth 100000 in
set_option maxHeartbeats 4000000 in
theorem eEv_takeAuths_58 (σ : Hp) : fEv_takeAuths_58 σ =
  some (none, σ)
  := (blk_eq sEv_takeAuths 38 _).trans rfl

-- MeshRoom$Event.takeAuth(I)V
noncomputable def fEv_takeAuth_61 (σ : Hp) : Option Rs := rF (mEv_takeAuth, 61, [], [], σ)
set_option maxRecDepth 100000 in
set_option maxHeartbeats 4000000 in
theorem eEv_takeAuth (x0 : Option Nat) (x1 : Int32) (σ : Hp) : rF (mEv_takeAuth, 0, [(0, sA x0), (1, sI x1)], [], σ) =
  (gfA σ x0 1 5).bind fun v1 =>
  (gfA σ v1 6 0).bind fun v4 =>
  (alA σ v4 x1).bind fun v8 =>
  if v8 = none then
    fEv_takeAuth_61 σ
  else
    (gfA σ x0 1 6).bind fun v15 =>
    (gfA σ v15 6 0).bind fun v18 =>
    (asA σ v18 x1 v8).bind fun σ23 =>
    (gfJ σ23 x0 1 10).bind fun v26 =>
    (gfI σ23 v8 1 0).bind fun v30 =>
    (cJ rF nRm_bit [sI v30] σ23).bind fun q33 =>
    (pfJ q33.2 x0 1 10 (v26 ||| q33.1)).bind fun σ37 =>
    (gfJ σ37 x0 1 11).bind fun v42 =>
    (gfI σ37 v8 1 0).bind fun v46 =>
    (cJ rF nRm_bit [sI v46] σ37).bind fun q49 =>
    (gfJ q49.2 v8 1 11).bind fun v53 =>
    (pfJ q49.2 x0 1 11 (v42 ||| (q49.1 ||| v53))).bind fun σ58 =>
    fEv_takeAuth_61 σ58
  := (blk_eq sEv_takeAuth 39 _).trans rfl
set_option maxRecDepth 100000 in
set_option maxHeartbeats 4000000 in
theorem eEv_takeAuth_61 (σ : Hp) : fEv_takeAuth_61 σ =
  some (none, σ)
  := (blk_eq sEv_takeAuth 39 _).trans rfl

-- MeshRoom$Event.makeGood()V
set_option maxRecDepth 100000 in
set_option maxHeartbeats 4000000 in
theorem eEv_makeGood (x0 : Option Nat) (σ : Hp) : rF (mEv_makeGood, 0, [(0, sA x0)], [], σ) =
  (pfZ σ x0 1 12 (1 : Int32)).bind fun σ2 =>
  (gfA σ2 x0 1 7).bind fun v6 =>
  (gfA σ2 x0 1 5).bind fun v10 =>
  (rcv σ2 [sA v6, sA v10] 6).bind fun _ =>
  (cV rF nSt_copyFrom [sA v6, sA v10] σ2).bind fun q13 =>
  (gfA q13 x0 1 7).bind fun v17 =>
  (rcv q13 [sA v17, sA x0] 6).bind fun _ =>
  (cV rF nSt_put [sA v17, sA x0] q13).bind fun q21 =>
  some (none, q21)
  := (blk_eq sEv_makeGood 18 _).trans rfl
