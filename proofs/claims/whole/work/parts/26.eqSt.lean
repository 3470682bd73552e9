/-! Equations of the stretches (printed by wip/gen/tabs.py). -/
-- MeshRoom$State.<init>()V
set_option maxRecDepth 100000 in
set_option maxHeartbeats 4000000 in
theorem eSt_init (x0 : Option Nat) (σ : Hp) : rF (mSt_init, 0, [(0, sA x0)], [], σ) =
  (x0).bind fun _ =>
  (mkA σ 3 (9 : Int32)).bind fun σ7 =>
  (pfA σ7 x0 6 0 (some (Prod.fst σ))).bind fun σ10 =>
  some (none, σ10)
  := (blk_eq sSt_init 12 _).trans rfl

-- MeshRoom$State.copyFrom(LMeshRoom$State;)V
noncomputable def fSt_copyFrom_2 (x0 : Option Nat) (x1 : Option Nat) (x2 : Int32) (σ : Hp) : Option Rs := rF (mSt_copyFrom, 2, [(0, sA x0), (1, sA x1), (2, sI x2)], [], σ)
set_option maxRecDepth 100000 in
set_option maxHeartbeats 4000000 in
theorem eSt_copyFrom (x0 : Option Nat) (x1 : Option Nat) (σ : Hp) : rF (mSt_copyFrom, 0, [(0, sA x0), (1, sA x1)], [], σ) =
  fSt_copyFrom_2 x0 x1 (0 : Int32) σ
  := (blk_eq sSt_copyFrom 21 _).trans rfl
set_option maxRecDepth 100000 in
set_option maxHeartbeats 4000000 in
theorem eSt_copyFrom_2 (x0 : Option Nat) (x1 : Option Nat) (x2 : Int32) (σ : Hp) : fSt_copyFrom_2 x0 x1 x2 σ =
  if (9 : Int32) ≤ x2 then
    some (none, σ)
  else
    (gfA σ x0 6 0).bind fun v9 =>
    (gfA σ x1 6 0).bind fun v14 =>
    (alA σ v14 x2).bind fun v18 =>
    (asA σ v9 x2 v18).bind fun σ19 =>
    fSt_copyFrom_2 x0 x1 (x2 + (1 : Int32)) σ19
  := (blk_eq sSt_copyFrom 21 _).trans rfl

-- MeshRoom$State.put(LMeshRoom$Event;)V
noncomputable def fSt_put_17 (σ : Hp) : Option Rs := rF (mSt_put, 17, [], [], σ)
set_option maxRecDepth 100000 in
set_option maxHeartbeats 4000000 in
theorem eSt_put (x0 : Option Nat) (x1 : Option Nat) (σ : Hp) : rF (mSt_put, 0, [(0, sA x0), (1, sA x1)], [], σ) =
  (rcv σ [sA x1] 1).bind fun _ =>
  (cI rF nEv_key [sA x1] σ).bind fun q1 =>
  if q1.1 = (-1 : Int32) then
    fSt_put_17 q1.2
  else
    (gfA q1.2 x0 6 0).bind fun v11 =>
    (asA q1.2 v11 q1.1 x1).bind fun σ16 =>
    fSt_put_17 σ16
  := (blk_eq sSt_put 17 _).trans rfl
set_option maxRecDepth 100000 in
set_option maxHeartbeats 4000000 in
theorem eSt_put_17 (σ : Hp) : fSt_put_17 σ =
  some (none, σ)
  := (blk_eq sSt_put 17 _).trans rfl

-- MeshRoom$State.numberAt(I)I
noncomputable def fSt_numberAt_22 (s0 : Int32) (σ : Hp) : Option Rs := rF (mSt_numberAt, 22, [], [sI s0], σ)
set_option maxRecDepth 100000 in
set_option maxHeartbeats 4000000 in
theorem eSt_numberAt (x0 : Option Nat) (x1 : Int32) (σ : Hp) : rF (mSt_numberAt, 0, [(0, sA x0), (1, sI x1)], [], σ) =
  (gfA σ x0 6 0).bind fun v1 =>
  (alA σ v1 x1).bind fun v5 =>
  if ¬ v5 = none then
    (gfA σ x0 6 0).bind fun v14 =>
    (alA σ v14 x1).bind fun v18 =>
    (gfI σ v18 1 0).bind fun v19 =>
    fSt_numberAt_22 v19 σ
  else
    fSt_numberAt_22 (0 : Int32) σ
  := (blk_eq sSt_numberAt 18 _).trans rfl
set_option maxRecDepth 100000 in
set_option maxHeartbeats 4000000 in
theorem eSt_numberAt_22 (s0 : Int32) (σ : Hp) : fSt_numberAt_22 s0 σ =
  some (some (sI s0), σ)
  := (blk_eq sSt_numberAt 18 _).trans rfl

-- MeshRoom$State.membership(I)I
noncomputable def fSt_membership_21 (s0 : Int32) (σ : Hp) : Option Rs := rF (mSt_membership, 21, [], [sI s0], σ)
set_option maxRecDepth 100000 in
set_option maxHeartbeats 4000000 in
theorem eSt_membership (x0 : Option Nat) (x1 : Int32) (σ : Hp) : rF (mSt_membership, 0, [(0, sA x0), (1, sI x1)], [], σ) =
  (gfA σ x0 6 0).bind fun v1 =>
  (alA σ v1 ((3 : Int32) + x1)).bind fun v7 =>
  if ¬ v7 = none then
    (gfI σ v7 1 1).bind fun v18 =>
    fSt_membership_21 v18 σ
  else
    fSt_membership_21 (0 : Int32) σ
  := (blk_eq sSt_membership 19 _).trans rfl
set_option maxRecDepth 100000 in
set_option maxHeartbeats 4000000 in
theorem eSt_membership_21 (s0 : Int32) (σ : Hp) : fSt_membership_21 s0 σ =
  some (some (sI s0), σ)
  := (blk_eq sSt_membership 19 _).trans rfl

-- MeshRoom$State.level(I)I
noncomputable def fSt_level_45 (σ : Hp) : Option Rs := rF (mSt_level, 45, [], [], σ)
noncomputable def fSt_level_46 (s0 : Int32) (σ : Hp) : Option Rs := rF (mSt_level, 46, [], [sI s0], σ)
set_option maxRecDepth 100000 in
set_option maxHeartbeats 4000000 in
theorem eSt_level (x0 : Option Nat) (x1 : Int32) (σ : Hp) : rF (mSt_level, 0, [(0, sA x0), (1, sI x1)], [], σ) =
  (gfA σ x0 6 0).bind fun v1 =>
  (alA σ v1 (1 : Int32)).bind fun v5 =>
  if v5 = none then
    (gfA σ x0 6 0).bind fun v23 =>
    (alA σ v23 (0 : Int32)).bind fun v27 =>
    if v27 = none then
      fSt_level_45 σ
    else
      (gfI σ v27 1 2).bind fun v34 =>
      if ¬ v34 = x1 then
        fSt_level_45 σ
      else
        fSt_level_46 (3 : Int32) σ
  else
    (gfI σ v5 1 8).bind fun v12 =>
    some (some (sI ((v12 >>> (((2 : Int32) * x1) &&& 31)) &&& (3 : Int32))), σ)
  := (blk_eq sSt_level 36 _).trans rfl
set_option maxRecDepth 100000 in
set_option maxHeartbeats 4000000 in
theorem eSt_level_45 (σ : Hp) : fSt_level_45 σ =
  fSt_level_46 (0 : Int32) σ
  := (blk_eq sSt_level 36 _).trans rfl
set_option maxRecDepth 100000 in
set_option maxHeartbeats 4000000 in
theorem eSt_level_46 (s0 : Int32) (σ : Hp) : fSt_level_46 s0 σ =
  some (some (sI s0), σ)
  := (blk_eq sSt_level 36 _).trans rfl

-- MeshRoom$State.levelsWith(II)I
noncomputable def fSt_levelsWith_5 (x0 : Option Nat) (x1 : Int32) (x2 : Int32) (x3 : Int32) (x4 : Int32) (σ : Hp) : Option Rs := rF (mSt_levelsWith, 5, [(0, sA x0), (1, sI x1), (2, sI x2), (3, sI x3), (4, sI x4)], [], σ)
noncomputable def fSt_levelsWith_29 (x0 : Option Nat) (x1 : Int32) (x2 : Int32) (x4 : Int32) (s0 : Int32) (s1 : Int32) (σ : Hp) : Option Rs := rF (mSt_levelsWith, 29, [(0, sA x0), (1, sI x1), (2, sI x2), (4, sI x4)], [sI s1, sI s0], σ)
set_option maxRecDepth 100000 in
set_option maxHeartbeats 4000000 in
theorem eSt_levelsWith (x0 : Option Nat) (x1 : Int32) (x2 : Int32) (σ : Hp) : rF (mSt_levelsWith, 0, [(0, sA x0), (1, sI x1), (2, sI x2)], [], σ) =
  fSt_levelsWith_5 x0 x1 x2 (0 : Int32) (0 : Int32) σ
  := (blk_eq sSt_levelsWith 31 _).trans rfl
set_option maxRecDepth 100000 in
set_option maxHeartbeats 4000000 in
theorem eSt_levelsWith_5 (x0 : Option Nat) (x1 : Int32) (x2 : Int32) (x3 : Int32) (x4 : Int32) (σ : Hp) : fSt_levelsWith_5 x0 x1 x2 x3 x4 σ =
  if (6 : Int32) ≤ x4 then
    some (some (sI x3), σ)
  else
    if ¬ x4 = x1 then
      (rcv σ [sA x0, sI x4] 6).bind fun _ =>
      (cI rF nSt_level [sA x0, sI x4] σ).bind fun q26 =>
      fSt_levelsWith_29 x0 x1 x2 x4 x3 q26.1 q26.2
    else
      fSt_levelsWith_29 x0 x1 x2 x4 x3 x2 σ
  := (blk_eq sSt_levelsWith 31 _).trans rfl
set_option maxRecDepth 100000 in
set_option maxHeartbeats 4000000 in
theorem eSt_levelsWith_29 (x0 : Option Nat) (x1 : Int32) (x2 : Int32) (x4 : Int32) (s0 : Int32) (s1 : Int32) (σ : Hp) : fSt_levelsWith_29 x0 x1 x2 x4 s0 s1 σ =
  fSt_levelsWith_5 x0 x1 x2 (s0 + (s1 <<< (((2 : Int32) * x4) &&& 31))) (x4 + (1 : Int32)) σ
  := (blk_eq sSt_levelsWith 31 _).trans rfl

-- MeshRoom$State.isOpen()Z
noncomputable def fSt_isOpen_23 (σ : Hp) : Option Rs := rF (mSt_isOpen, 23, [], [], σ)
noncomputable def fSt_isOpen_24 (s0 : Int32) (σ : Hp) : Option Rs := rF (mSt_isOpen, 24, [], [sI s0], σ)
set_option maxRecDepth 100000 in
set_option maxHeartbeats 4000000 in
theorem eSt_isOpen (x0 : Option Nat) (σ : Hp) : rF (mSt_isOpen, 0, [(0, sA x0)], [], σ) =
  (gfA σ x0 6 0).bind fun v1 =>
  (alA σ v1 (2 : Int32)).bind fun v5 =>
  if v5 = none then
    fSt_isOpen_23 σ
  else
    (gfI σ v5 1 8).bind fun v12 =>
    if ¬ v12 = (1 : Int32) then
      fSt_isOpen_23 σ
    else
      fSt_isOpen_24 (1 : Int32) σ
  := (blk_eq sSt_isOpen 20 _).trans rfl
set_option maxRecDepth 100000 in
set_option maxHeartbeats 4000000 in
theorem eSt_isOpen_23 (σ : Hp) : fSt_isOpen_23 σ =
  fSt_isOpen_24 (0 : Int32) σ
  := (blk_eq sSt_isOpen 20 _).trans rfl
set_option maxRecDepth 100000 in
set_option maxHeartbeats 4000000 in
theorem eSt_isOpen_24 (s0 : Int32) (σ : Hp) : fSt_isOpen_24 s0 σ =
  rz s0 σ
  := (blk_eq sSt_isOpen 20 _).trans rfl

-- MeshRoom$State.whole()J
noncomputable def fSt_whole_4 (x0 : Option Nat) (x1 : Int64) (x3 : Int32) (σ : Hp) : Option Rs := rF (mSt_whole, 4, [(0, sA x0), (1, sJ x1), (3, sI x3)], [], σ)
noncomputable def fSt_whole_31 (x0 : Option Nat) (x1 : Int64) (x3 : Int32) (σ : Hp) : Option Rs := rF (mSt_whole, 31, [(0, sA x0), (1, sJ x1), (3, sI x3)], [], σ)
set_option maxRecDepth 100000 in
set_option maxHeartbeats 4000000 in
theorem eSt_whole (x0 : Option Nat) (σ : Hp) : rF (mSt_whole, 0, [(0, sA x0)], [], σ) =
  fSt_whole_4 x0 (0 : Int64) (0 : Int32) σ
  := (blk_eq sSt_whole 29 _).trans rfl
set_option maxRecDepth 100000 in
set_option maxHeartbeats 4000000 in
theorem eSt_whole_4 (x0 : Option Nat) (x1 : Int64) (x3 : Int32) (σ : Hp) : fSt_whole_4 x0 x1 x3 σ =
  if (9 : Int32) ≤ x3 then
    some (some (sJ x1), σ)
  else
    (gfA σ x0 6 0).bind fun v11 =>
    (alA σ v11 x3).bind fun v15 =>
    if v15 = none then
      fSt_whole_31 x0 x1 x3 σ
    else
      (gfA σ x0 6 0).bind fun v21 =>
      (alA σ v21 x3).bind fun v25 =>
      (gfJ σ v25 1 11).bind fun v26 =>
      fSt_whole_31 x0 (x1 ||| v26) x3 σ
  := (blk_eq sSt_whole 29 _).trans rfl
set_option maxRecDepth 100000 in
set_option maxHeartbeats 4000000 in
theorem eSt_whole_31 (x0 : Option Nat) (x1 : Int64) (x3 : Int32) (σ : Hp) : fSt_whole_31 x0 x1 x3 σ =
  fSt_whole_4 x0 x1 (x3 + (1 : Int32)) σ
  := (blk_eq sSt_whole 29 _).trans rfl

-- MeshRoom$State.allows(LMeshRoom$Event;)Z
noncomputable def fSt_allows_119 (s0 : Int32) (σ : Hp) : Option Rs := rF (mSt_allows, 119, [], [sI s0], σ)
set_option maxRecDepth 100000 in
set_option maxHeartbeats 4000000 in
theorem eSt_allows (x0 : Option Nat) (x1 : Option Nat) (σ : Hp) : rF (mSt_allows, 0, [(0, sA x0), (1, sA x1)], [], σ) =
  (gfA σ x0 6 0).bind fun v1 =>
  (alA σ v1 (0 : Int32)).bind fun v5 =>
  if ¬ v5 = none then
    (gfI σ x1 1 1).bind fun v12 =>
    if v12 = (1 : Int32) then
      (rcv σ [sA x0, sA x1] 6).bind fun _ =>
      (cI rF nSt_allowsJoin [sA x0, sA x1] σ).bind fun q58 =>
      rz q58.1 q58.2
    else
     if v12 = (2 : Int32) then
      (rcv σ [sA x0, sA x1] 6).bind fun _ =>
      (cI rF nSt_allowsInvite [sA x0, sA x1] σ).bind fun q64 =>
      rz q64.1 q64.2
     else
      if v12 = (3 : Int32) then
      (rcv σ [sA x0, sA x1] 6).bind fun _ =>
      (cI rF nSt_allowsLeave [sA x0, sA x1] σ).bind fun q70 =>
      rz q70.1 q70.2
      else
       if v12 = (4 : Int32) then
      (gfI σ x1 1 2).bind fun v76 =>
      (gfI σ x1 1 3).bind fun v80 =>
      (rcv σ [sA x0, sI v76, sI v80] 6).bind fun _ =>
      (cI rF nSt_hasPowerOver [sA x0, sI v76, sI v80] σ).bind fun q83 =>
      rz q83.1 q83.2
       else
        if v12 = (5 : Int32) then
      (rcv σ [sA x0, sA x1] 6).bind fun _ =>
      (cI rF nSt_allowsLevels [sA x0, sA x1] σ).bind fun q89 =>
      rz q89.1 q89.2
        else
         if v12 = (6 : Int32) then
      (gfI σ x1 1 2).bind fun v95 =>
      (rcv σ [sA x0, sI v95] 6).bind fun _ =>
      (cI rF nSt_leads [sA x0, sI v95] σ).bind fun q98 =>
      rz q98.1 q98.2
         else
          if v12 = (7 : Int32) then
      (gfI σ x1 1 2).bind fun v104 =>
      (rcv σ [sA x0, sI v104] 6).bind fun _ =>
      (cI rF nSt_membership [sA x0, sI v104] σ).bind fun q107 =>
      if ¬ q107.1 = (1 : Int32) then
        fSt_allows_119 (0 : Int32) q107.2
      else
        fSt_allows_119 (1 : Int32) q107.2
          else
            rz (0 : Int32) σ
  else
    rz (0 : Int32) σ
  := (blk_eq sSt_allows 55 _).trans rfl
set_option maxRecDepth 100000 in
set_option maxHeartbeats 4000000 in
theorem eSt_allows_119 (s0 : Int32) (σ : Hp) : fSt_allows_119 s0 σ =
  rz s0 σ
  := (blk_eq sSt_allows 55 _).trans rfl

-- MeshRoom$State.allowsJoin(LMeshRoom$Event;)Z
noncomputable def fSt_allowsJoin_25 (σ : Hp) : Option Rs := rF (mSt_allowsJoin, 25, [], [], σ)
noncomputable def fSt_allowsJoin_52 (σ : Hp) : Option Rs := rF (mSt_allowsJoin, 52, [], [], σ)
noncomputable def fSt_allowsJoin_57 (s0 : Int32) (σ : Hp) : Option Rs := rF (mSt_allowsJoin, 57, [], [sI s0], σ)
set_option maxRecDepth 100000 in
set_option maxHeartbeats 4000000 in
theorem eSt_allowsJoin (x0 : Option Nat) (x1 : Option Nat) (σ : Hp) : rF (mSt_allowsJoin, 0, [(0, sA x0), (1, sA x1)], [], σ) =
  (gfI σ x1 1 3).bind fun v2 =>
  (rcv σ [sA x0, sI v2] 6).bind fun _ =>
  (cI rF nSt_membership [sA x0, sI v2] σ).bind fun q5 =>
  (gfI q5.2 x1 1 2).bind fun v10 =>
  (gfI q5.2 x1 1 3).bind fun v14 =>
  if ¬ v10 = v14 then
    fSt_allowsJoin_25 q5.2
  else
    if ¬ q5.1 = (4 : Int32) then
      (rcv q5.2 [sA x0] 6).bind fun _ =>
      (cI rF nSt_isOpen [sA x0] q5.2).bind fun q28 =>
      if ¬ q28.1 = 0 then
        fSt_allowsJoin_52 q28.2
      else
        if q5.1 = (1 : Int32) then
          fSt_allowsJoin_52 q28.2
        else
          if q5.1 = (2 : Int32) then
            fSt_allowsJoin_52 q28.2
          else
            (rcv q28.2 [sA x0, sA x1] 6).bind fun _ =>
            (cI rF nSt_isFirstJoin [sA x0, sA x1] q28.2).bind fun q46 =>
            if q46.1 = 0 then
              fSt_allowsJoin_57 (0 : Int32) q46.2
            else
              fSt_allowsJoin_52 q46.2
    else
      fSt_allowsJoin_25 q5.2
  := (blk_eq sSt_allowsJoin 37 _).trans rfl
set_option maxRecDepth 100000 in
set_option maxHeartbeats 4000000 in
theorem eSt_allowsJoin_25 (σ : Hp) : fSt_allowsJoin_25 σ =
  rz (0 : Int32) σ
  := (blk_eq sSt_allowsJoin 37 _).trans rfl
set_option maxRecDepth 100000 in
set_option maxHeartbeats 4000000 in
theorem eSt_allowsJoin_52 (σ : Hp) : fSt_allowsJoin_52 σ =
  fSt_allowsJoin_57 (1 : Int32) σ
  := (blk_eq sSt_allowsJoin 37 _).trans rfl
set_option maxRecDepth 100000 in
set_option maxHeartbeats 4000000 in
theorem eSt_allowsJoin_57 (s0 : Int32) (σ : Hp) : fSt_allowsJoin_57 s0 σ =
  rz s0 σ
  := (blk_eq sSt_allowsJoin 37 _).trans rfl

-- MeshRoom$State.isFirstJoin(LMeshRoom$Event;)Z
noncomputable def fSt_isFirstJoin_41 (σ : Hp) : Option Rs := rF (mSt_isFirstJoin, 41, [], [], σ)
noncomputable def fSt_isFirstJoin_42 (s0 : Int32) (σ : Hp) : Option Rs := rF (mSt_isFirstJoin, 42, [], [sI s0], σ)
set_option maxRecDepth 100000 in
set_option maxHeartbeats 4000000 in
theorem eSt_isFirstJoin (x0 : Option Nat) (x1 : Option Nat) (σ : Hp) : rF (mSt_isFirstJoin, 0, [(0, sA x0), (1, sA x1)], [], σ) =
  (gfA σ x0 6 0).bind fun v1 =>
  (alA σ v1 (0 : Int32)).bind fun v5 =>
  if v5 = none then
    fSt_isFirstJoin_41 σ
  else
    (gfJ σ x1 1 4).bind fun v12 =>
    (gfI σ v5 1 0).bind fun v16 =>
    (cJ rF nRm_bit [sI v16] σ).bind fun q19 =>
    if ¬ (lg_cmp v12 q19.1) = 0 then
      fSt_isFirstJoin_41 q19.2
    else
      (gfI q19.2 x1 1 2).bind fun v27 =>
      (gfI q19.2 v5 1 2).bind fun v31 =>
      if ¬ v27 = v31 then
        fSt_isFirstJoin_41 q19.2
      else
        fSt_isFirstJoin_42 (1 : Int32) q19.2
  := (blk_eq sSt_isFirstJoin 28 _).trans rfl
set_option maxRecDepth 100000 in
set_option maxHeartbeats 4000000 in
theorem eSt_isFirstJoin_41 (σ : Hp) : fSt_isFirstJoin_41 σ =
  fSt_isFirstJoin_42 (0 : Int32) σ
  := (blk_eq sSt_isFirstJoin 28 _).trans rfl
set_option maxRecDepth 100000 in
set_option maxHeartbeats 4000000 in
theorem eSt_isFirstJoin_42 (s0 : Int32) (σ : Hp) : fSt_isFirstJoin_42 s0 σ =
  rz s0 σ
  := (blk_eq sSt_isFirstJoin 28 _).trans rfl

-- MeshRoom$State.allowsInvite(LMeshRoom$Event;)Z
noncomputable def fSt_allowsInvite_35 (σ : Hp) : Option Rs := rF (mSt_allowsInvite, 35, [], [], σ)
noncomputable def fSt_allowsInvite_36 (s0 : Int32) (σ : Hp) : Option Rs := rF (mSt_allowsInvite, 36, [], [sI s0], σ)
set_option maxRecDepth 100000 in
set_option maxHeartbeats 4000000 in
theorem eSt_allowsInvite (x0 : Option Nat) (x1 : Option Nat) (σ : Hp) : rF (mSt_allowsInvite, 0, [(0, sA x0), (1, sA x1)], [], σ) =
  (gfI σ x1 1 3).bind fun v2 =>
  (rcv σ [sA x0, sI v2] 6).bind fun _ =>
  (cI rF nSt_membership [sA x0, sI v2] σ).bind fun q5 =>
  (gfI q5.2 x1 1 2).bind fun v11 =>
  (rcv q5.2 [sA x0, sI v11] 6).bind fun _ =>
  (cI rF nSt_membership [sA x0, sI v11] q5.2).bind fun q14 =>
  if ¬ q14.1 = (1 : Int32) then
    fSt_allowsInvite_35 q14.2
  else
    if q5.1 = (1 : Int32) then
      fSt_allowsInvite_35 q14.2
    else
      if q5.1 = (4 : Int32) then
        fSt_allowsInvite_35 q14.2
      else
        fSt_allowsInvite_36 (1 : Int32) q14.2
  := (blk_eq sSt_allowsInvite 26 _).trans rfl
set_option maxRecDepth 100000 in
set_option maxHeartbeats 4000000 in
theorem eSt_allowsInvite_35 (σ : Hp) : fSt_allowsInvite_35 σ =
  fSt_allowsInvite_36 (0 : Int32) σ
  := (blk_eq sSt_allowsInvite 26 _).trans rfl
set_option maxRecDepth 100000 in
set_option maxHeartbeats 4000000 in
theorem eSt_allowsInvite_36 (s0 : Int32) (σ : Hp) : fSt_allowsInvite_36 s0 σ =
  rz s0 σ
  := (blk_eq sSt_allowsInvite 26 _).trans rfl

-- MeshRoom$State.allowsLeave(LMeshRoom$Event;)Z
noncomputable def fSt_allowsLeave_19 (x0 : Option Nat) (x1 : Option Nat) (x2 : Int32) (σ : Hp) : Option Rs := rF (mSt_allowsLeave, 19, [(0, sA x0), (1, sA x1), (2, sI x2)], [], σ)
noncomputable def fSt_allowsLeave_24 (x0 : Option Nat) (x1 : Option Nat) (x2 : Int32) (s0 : Int32) (σ : Hp) : Option Rs := rF (mSt_allowsLeave, 24, [(0, sA x0), (1, sA x1), (2, sI x2)], [sI s0], σ)
noncomputable def fSt_allowsLeave_47 (x0 : Option Nat) (x1 : Option Nat) (σ : Hp) : Option Rs := rF (mSt_allowsLeave, 47, [(0, sA x0), (1, sA x1)], [], σ)
noncomputable def fSt_allowsLeave_66 (σ : Hp) : Option Rs := rF (mSt_allowsLeave, 66, [], [], σ)
noncomputable def fSt_allowsLeave_67 (s0 : Int32) (σ : Hp) : Option Rs := rF (mSt_allowsLeave, 67, [], [sI s0], σ)
set_option maxRecDepth 100000 in
set_option maxHeartbeats 4000000 in
theorem eSt_allowsLeave (x0 : Option Nat) (x1 : Option Nat) (σ : Hp) : rF (mSt_allowsLeave, 0, [(0, sA x0), (1, sA x1)], [], σ) =
  (gfI σ x1 1 3).bind fun v2 =>
  (rcv σ [sA x0, sI v2] 6).bind fun _ =>
  (cI rF nSt_membership [sA x0, sI v2] σ).bind fun q5 =>
  if q5.1 = (1 : Int32) then
    fSt_allowsLeave_19 x0 x1 q5.1 q5.2
  else
    if ¬ q5.1 = (2 : Int32) then
      fSt_allowsLeave_24 x0 x1 q5.1 (0 : Int32) q5.2
    else
      fSt_allowsLeave_19 x0 x1 q5.1 q5.2
  := (blk_eq sSt_allowsLeave 43 _).trans rfl
set_option maxRecDepth 100000 in
set_option maxHeartbeats 4000000 in
theorem eSt_allowsLeave_19 (x0 : Option Nat) (x1 : Option Nat) (x2 : Int32) (σ : Hp) : fSt_allowsLeave_19 x0 x1 x2 σ =
  fSt_allowsLeave_24 x0 x1 x2 (1 : Int32) σ
  := (blk_eq sSt_allowsLeave 43 _).trans rfl
set_option maxRecDepth 100000 in
set_option maxHeartbeats 4000000 in
theorem eSt_allowsLeave_24 (x0 : Option Nat) (x1 : Option Nat) (x2 : Int32) (s0 : Int32) (σ : Hp) : fSt_allowsLeave_24 x0 x1 x2 s0 σ =
  (gfI σ x1 1 2).bind fun v26 =>
  (gfI σ x1 1 3).bind fun v30 =>
  if ¬ v26 = v30 then
    if ¬ s0 = 0 then
      fSt_allowsLeave_47 x0 x1 σ
    else
      if ¬ x2 = (4 : Int32) then
        fSt_allowsLeave_66 σ
      else
        fSt_allowsLeave_47 x0 x1 σ
  else
    rz s0 σ
  := (blk_eq sSt_allowsLeave 43 _).trans rfl
set_option maxRecDepth 100000 in
set_option maxHeartbeats 4000000 in
theorem eSt_allowsLeave_47 (x0 : Option Nat) (x1 : Option Nat) (σ : Hp) : fSt_allowsLeave_47 x0 x1 σ =
  (gfI σ x1 1 2).bind fun v49 =>
  (gfI σ x1 1 3).bind fun v53 =>
  (rcv σ [sA x0, sI v49, sI v53] 6).bind fun _ =>
  (cI rF nSt_hasPowerOver [sA x0, sI v49, sI v53] σ).bind fun q56 =>
  if q56.1 = 0 then
    fSt_allowsLeave_66 q56.2
  else
    fSt_allowsLeave_67 (1 : Int32) q56.2
  := (blk_eq sSt_allowsLeave 43 _).trans rfl
set_option maxRecDepth 100000 in
set_option maxHeartbeats 4000000 in
theorem eSt_allowsLeave_66 (σ : Hp) : fSt_allowsLeave_66 σ =
  fSt_allowsLeave_67 (0 : Int32) σ
  := (blk_eq sSt_allowsLeave 43 _).trans rfl
set_option maxRecDepth 100000 in
set_option maxHeartbeats 4000000 in
theorem eSt_allowsLeave_67 (s0 : Int32) (σ : Hp) : fSt_allowsLeave_67 s0 σ =
  rz s0 σ
  := (blk_eq sSt_allowsLeave 43 _).trans rfl

-- MeshRoom$State.allowsLevels(LMeshRoom$Event;)Z
noncomputable def fSt_allowsLevels_24 (x0 : Option Nat) (x1 : Option Nat) (x2 : Int32) (x3 : Int32) (σ : Hp) : Option Rs := rF (mSt_allowsLevels, 24, [(0, sA x0), (1, sA x1), (2, sI x2), (3, sI x3)], [], σ)
noncomputable def fSt_allowsLevels_69 (x0 : Option Nat) (x1 : Option Nat) (x2 : Int32) (x3 : Int32) (x4 : Int32) (x5 : Int32) (σ : Hp) : Option Rs := rF (mSt_allowsLevels, 69, [(0, sA x0), (1, sA x1), (2, sI x2), (3, sI x3), (4, sI x4), (5, sI x5)], [], σ)
noncomputable def fSt_allowsLevels_73 (x0 : Option Nat) (x1 : Option Nat) (x2 : Int32) (x3 : Int32) (x4 : Int32) (x5 : Int32) (σ : Hp) : Option Rs := rF (mSt_allowsLevels, 73, [(0, sA x0), (1, sA x1), (2, sI x2), (3, sI x3), (4, sI x4), (5, sI x5)], [], σ)
noncomputable def fSt_allowsLevels_74 (x0 : Option Nat) (x1 : Option Nat) (x2 : Int32) (x3 : Int32) (x4 : Int32) (x5 : Int32) (s0 : Int32) (σ : Hp) : Option Rs := rF (mSt_allowsLevels, 74, [(0, sA x0), (1, sA x1), (2, sI x2), (3, sI x3), (4, sI x4), (5, sI x5)], [sI s0], σ)
noncomputable def fSt_allowsLevels_90 (x0 : Option Nat) (x1 : Option Nat) (x2 : Int32) (x3 : Int32) (σ : Hp) : Option Rs := rF (mSt_allowsLevels, 90, [(0, sA x0), (1, sA x1), (2, sI x2), (3, sI x3)], [], σ)
set_option maxRecDepth 100000 in
set_option maxHeartbeats 4000000 in
theorem eSt_allowsLevels (x0 : Option Nat) (x1 : Option Nat) (σ : Hp) : rF (mSt_allowsLevels, 0, [(0, sA x0), (1, sA x1)], [], σ) =
  (gfI σ x1 1 2).bind fun v2 =>
  (rcv σ [sA x0, sI v2] 6).bind fun _ =>
  (cI rF nSt_leads [sA x0, sI v2] σ).bind fun q5 =>
  if ¬ q5.1 = 0 then
    (gfI q5.2 x1 1 2).bind fun v15 =>
    (rcv q5.2 [sA x0, sI v15] 6).bind fun _ =>
    (cI rF nSt_level [sA x0, sI v15] q5.2).bind fun q18 =>
    fSt_allowsLevels_24 x0 x1 q18.1 (0 : Int32) q18.2
  else
    rz (0 : Int32) q5.2
  := (blk_eq sSt_allowsLevels 60 _).trans rfl
set_option maxRecDepth 100000 in
set_option maxHeartbeats 4000000 in
theorem eSt_allowsLevels_24 (x0 : Option Nat) (x1 : Option Nat) (x2 : Int32) (x3 : Int32) (σ : Hp) : fSt_allowsLevels_24 x0 x1 x2 x3 σ =
  if (6 : Int32) ≤ x3 then
    rz (1 : Int32) σ
  else
    (gfI σ x1 1 8).bind fun v31 =>
    (rcv σ [sA x0, sI x3] 6).bind fun _ =>
    (cI rF nSt_level [sA x0, sI x3] σ).bind fun q44 =>
    if x2 < ((v31 >>> (((2 : Int32) * x3) &&& 31)) &&& (3 : Int32)) then
      fSt_allowsLevels_73 x0 x1 x2 x3 ((v31 >>> (((2 : Int32) * x3) &&& 31)) &&& (3 : Int32)) q44.1 q44.2
    else
      if q44.1 < x2 then
        fSt_allowsLevels_69 x0 x1 x2 x3 ((v31 >>> (((2 : Int32) * x3) &&& 31)) &&& (3 : Int32)) q44.1 q44.2
      else
        (gfI q44.2 x1 1 2).bind fun v63 =>
        if ¬ x3 = v63 then
          fSt_allowsLevels_73 x0 x1 x2 x3 ((v31 >>> (((2 : Int32) * x3) &&& 31)) &&& (3 : Int32)) q44.1 q44.2
        else
          fSt_allowsLevels_69 x0 x1 x2 x3 ((v31 >>> (((2 : Int32) * x3) &&& 31)) &&& (3 : Int32)) q44.1 q44.2
  := (blk_eq sSt_allowsLevels 60 _).trans rfl
set_option maxRecDepth 100000 in
set_option maxHeartbeats 4000000 in
theorem eSt_allowsLevels_69 (x0 : Option Nat) (x1 : Option Nat) (x2 : Int32) (x3 : Int32) (x4 : Int32) (x5 : Int32) (σ : Hp) : fSt_allowsLevels_69 x0 x1 x2 x3 x4 x5 σ =
  fSt_allowsLevels_74 x0 x1 x2 x3 x4 x5 (1 : Int32) σ
  := (blk_eq sSt_allowsLevels 60 _).trans rfl
set_option maxRecDepth 100000 in
set_option maxHeartbeats 4000000 in
theorem eSt_allowsLevels_73 (x0 : Option Nat) (x1 : Option Nat) (x2 : Int32) (x3 : Int32) (x4 : Int32) (x5 : Int32) (σ : Hp) : fSt_allowsLevels_73 x0 x1 x2 x3 x4 x5 σ =
  fSt_allowsLevels_74 x0 x1 x2 x3 x4 x5 (0 : Int32) σ
  := (blk_eq sSt_allowsLevels 60 _).trans rfl
set_option maxRecDepth 100000 in
set_option maxHeartbeats 4000000 in
theorem eSt_allowsLevels_74 (x0 : Option Nat) (x1 : Option Nat) (x2 : Int32) (x3 : Int32) (x4 : Int32) (x5 : Int32) (s0 : Int32) (σ : Hp) : fSt_allowsLevels_74 x0 x1 x2 x3 x4 x5 s0 σ =
  if x4 = x5 then
    fSt_allowsLevels_90 x0 x1 x2 x3 σ
  else
    if ¬ s0 = 0 then
      fSt_allowsLevels_90 x0 x1 x2 x3 σ
    else
      rz (0 : Int32) σ
  := (blk_eq sSt_allowsLevels 60 _).trans rfl
set_option maxRecDepth 100000 in
set_option maxHeartbeats 4000000 in
theorem eSt_allowsLevels_90 (x0 : Option Nat) (x1 : Option Nat) (x2 : Int32) (x3 : Int32) (σ : Hp) : fSt_allowsLevels_90 x0 x1 x2 x3 σ =
  fSt_allowsLevels_24 x0 x1 x2 (x3 + (1 : Int32)) σ
  := (blk_eq sSt_allowsLevels 60 _).trans rfl

-- MeshRoom$State.leads(I)Z
noncomputable def fSt_leads_22 (σ : Hp) : Option Rs := rF (mSt_leads, 22, [], [], σ)
noncomputable def fSt_leads_23 (s0 : Int32) (σ : Hp) : Option Rs := rF (mSt_leads, 23, [], [sI s0], σ)
set_option maxRecDepth 100000 in
set_option maxHeartbeats 4000000 in
theorem eSt_leads (x0 : Option Nat) (x1 : Int32) (σ : Hp) : rF (mSt_leads, 0, [(0, sA x0), (1, sI x1)], [], σ) =
  (rcv σ [sA x0, sI x1] 6).bind fun _ =>
  (cI rF nSt_membership [sA x0, sI x1] σ).bind fun q2 =>
  if ¬ q2.1 = (1 : Int32) then
    fSt_leads_22 q2.2
  else
    (rcv q2.2 [sA x0, sI x1] 6).bind fun _ =>
    (cI rF nSt_level [sA x0, sI x1] q2.2).bind fun q11 =>
    if q11.1 < (2 : Int32) then
      fSt_leads_22 q11.2
    else
      fSt_leads_23 (1 : Int32) q11.2
  := (blk_eq sSt_leads 19 _).trans rfl
set_option maxRecDepth 100000 in
set_option maxHeartbeats 4000000 in
theorem eSt_leads_22 (σ : Hp) : fSt_leads_22 σ =
  fSt_leads_23 (0 : Int32) σ
  := (blk_eq sSt_leads 19 _).trans rfl
set_option maxRecDepth 100000 in
set_option maxHeartbeats 4000000 in
theorem eSt_leads_23 (s0 : Int32) (σ : Hp) : fSt_leads_23 s0 σ =
  rz s0 σ
  := (blk_eq sSt_leads 19 _).trans rfl

-- MeshRoom$State.hasPowerOver(II)Z
noncomputable def fSt_hasPowerOver_33 (σ : Hp) : Option Rs := rF (mSt_hasPowerOver, 33, [], [], σ)
noncomputable def fSt_hasPowerOver_34 (s0 : Int32) (σ : Hp) : Option Rs := rF (mSt_hasPowerOver, 34, [], [sI s0], σ)
set_option maxRecDepth 100000 in
set_option maxHeartbeats 4000000 in
theorem eSt_hasPowerOver (x0 : Option Nat) (x1 : Int32) (x2 : Int32) (σ : Hp) : rF (mSt_hasPowerOver, 0, [(0, sA x0), (1, sI x1), (2, sI x2)], [], σ) =
  (rcv σ [sA x0, sI x1] 6).bind fun _ =>
  (cI rF nSt_level [sA x0, sI x1] σ).bind fun q2 =>
  (rcv q2.2 [sA x0, sI x1] 6).bind fun _ =>
  (cI rF nSt_membership [sA x0, sI x1] q2.2).bind fun q8 =>
  if ¬ q8.1 = (1 : Int32) then
    fSt_hasPowerOver_33 q8.2
  else
    if q2.1 < (2 : Int32) then
      fSt_hasPowerOver_33 q8.2
    else
      (rcv q8.2 [sA x0, sI x2] 6).bind fun _ =>
      (cI rF nSt_level [sA x0, sI x2] q8.2).bind fun q23 =>
      if q2.1 ≤ q23.1 then
        fSt_hasPowerOver_33 q23.2
      else
        fSt_hasPowerOver_34 (1 : Int32) q23.2
  := (blk_eq sSt_hasPowerOver 26 _).trans rfl
set_option maxRecDepth 100000 in
set_option maxHeartbeats 4000000 in
theorem eSt_hasPowerOver_33 (σ : Hp) : fSt_hasPowerOver_33 σ =
  fSt_hasPowerOver_34 (0 : Int32) σ
  := (blk_eq sSt_hasPowerOver 26 _).trans rfl
set_option maxRecDepth 100000 in
set_option maxHeartbeats 4000000 in
theorem eSt_hasPowerOver_34 (s0 : Int32) (σ : Hp) : fSt_hasPowerOver_34 s0 σ =
  rz s0 σ
  := (blk_eq sSt_hasPowerOver 26 _).trans rfl
