/-! Equations of the stretches (printed by wip/gen/tabs.py). -/
-- MeshRoom.<init>()V
noncomputable def fRm_init_130 (x0 : Option Nat) (x3 : Int32) (σ : Hp) : Option Rs := rF (mRm_init, 130, [(0, sA x0), (3, sI x3)], [], σ)
set_option maxRecDepth 100000 in
set_option maxHeartbeats 4000000 in
theorem eRm_init (x0 : Option Nat) (σ : Hp) : rF (mRm_init, 0, [(0, sA x0)], [], σ) =
  (x0).bind fun _ =>
  (rcv (mkO σ 2) [sA (some (Prod.fst σ))] 2).bind fun _ =>
  (cV rF nHi_init [sA (some (Prod.fst σ))] (mkO σ 2)).bind fun q9 =>
  (pfA q9 x0 0 0 (some (Prod.fst σ))).bind fun σ12 =>
  (gfA (mkO σ12 4) x0 0 0).bind fun v21 =>
  (rcv (mkO σ12 4) [sA (some (Prod.fst σ12)), sA v21] 4).bind fun _ =>
  (cV rF nRe_init [sA (some (Prod.fst σ12)), sA v21] (mkO σ12 4)).bind fun q24 =>
  (pfA q24 x0 0 1 (some (Prod.fst σ12))).bind fun σ27 =>
  (mkA σ27 5 (3 : Int32)).bind fun σ32 =>
  (pfA σ32 x0 0 2 (some (Prod.fst σ27))).bind fun σ35 =>
  (rcv (mkO σ35 7) [sA (some (Prod.fst σ35))] 7).bind fun _ =>
  (cV rF nWi_init [sA (some (Prod.fst σ35))] (mkO σ35 7)).bind fun q43 =>
  (pfA q43 x0 0 3 (some (Prod.fst σ35))).bind fun σ46 =>
  (rcv (mkO σ46 6) [sA (some (Prod.fst σ46))] 6).bind fun _ =>
  (cV rF nSt_init [sA (some (Prod.fst σ46))] (mkO σ46 6)).bind fun q54 =>
  (pfA q54 x0 0 4 (some (Prod.fst σ46))).bind fun σ57 =>
  (rcv (mkO σ57 1) [sA (some (Prod.fst σ57)), sI (1 : Int32), sI (0 : Int32), sI (0 : Int32), sI (0 : Int32), sJ (0 : Int64)] 1).bind fun _ =>
  (cV rF nEv_init [sA (some (Prod.fst σ57)), sI (1 : Int32), sI (0 : Int32), sI (0 : Int32), sI (0 : Int32), sJ (0 : Int64)] (mkO σ57 1)).bind fun q69 =>
  (rcv q69 [sA (some (Prod.fst σ57))] 1).bind fun _ =>
  (cV rF nEv_makeGood [sA (some (Prod.fst σ57))] q69).bind fun q74 =>
  (gfA q74 x0 0 0).bind fun v78 =>
  (rcv q74 [sA v78, sA (some (Prod.fst σ57))] 2).bind fun _ =>
  (cV rF nHi_keep [sA v78, sA (some (Prod.fst σ57))] q74).bind fun q82 =>
  (cJ rF nRm_bit [sI (1 : Int32)] (mkO q82 1)).bind fun q94 =>
  (rcv q94.2 [sA (some (Prod.fst q82)), sI (2 : Int32), sI (1 : Int32), sI (0 : Int32), sI (0 : Int32), sJ q94.1] 1).bind fun _ =>
  (cV rF nEv_init [sA (some (Prod.fst q82)), sI (2 : Int32), sI (1 : Int32), sI (0 : Int32), sI (0 : Int32), sJ q94.1] q94.2).bind fun q97 =>
  (gfA q97 (some (Prod.fst q82)) 1 5).bind fun v102 =>
  (gfA q97 (some (Prod.fst σ57)) 1 7).bind fun v106 =>
  (rcv q97 [sA v102, sA v106] 6).bind fun _ =>
  (cV rF nSt_copyFrom [sA v102, sA v106] q97).bind fun q109 =>
  (rcv q109 [sA (some (Prod.fst q82))] 1).bind fun _ =>
  (cV rF nEv_takeAuths [sA (some (Prod.fst q82))] q109).bind fun q113 =>
  (rcv q113 [sA (some (Prod.fst q82))] 1).bind fun _ =>
  (cV rF nEv_makeGood [sA (some (Prod.fst q82))] q113).bind fun q117 =>
  (gfA q117 x0 0 0).bind fun v121 =>
  (rcv q117 [sA v121, sA (some (Prod.fst q82))] 2).bind fun _ =>
  (cV rF nHi_keep [sA v121, sA (some (Prod.fst q82))] q117).bind fun q125 =>
  fRm_init_130 x0 (0 : Int32) q125
  := (blk_eq sRm_init 91 _).trans rfl
set_option maxRecDepth 100000 in
set_option maxHeartbeats 4000000 in
theorem eRm_init_130 (x0 : Option Nat) (x3 : Int32) (σ : Hp) : fRm_init_130 x0 x3 σ =
  if (3 : Int32) ≤ x3 then
    some (none, σ)
  else
    (gfA σ x0 0 2).bind fun v136 =>
    (cJ rF nRm_bit [sI (1 : Int32)] (mkO σ 5)).bind fun q145 =>
    (cJ rF nRm_bit [sI (2 : Int32)] q145.2).bind fun q149 =>
    (rcv q149.2 [sA (some (Prod.fst σ)), sJ (q145.1 ||| q149.1)] 5).bind fun _ =>
    (cV rF nSe_init [sA (some (Prod.fst σ)), sJ (q145.1 ||| q149.1)] q149.2).bind fun q153 =>
    (asA q153 v136 x3 (some (Prod.fst σ))).bind fun σ156 =>
    fRm_init_130 x0 (x3 + (1 : Int32)) σ156
  := (blk_eq sRm_init 91 _).trans rfl

-- MeshRoom.act(IIII)I
set_option maxRecDepth 100000 in
set_option maxHeartbeats 4000000 in
theorem eRm_act (x0 : Option Nat) (x1 : Int32) (x2 : Int32) (x3 : Int32) (x4 : Int32) (σ : Hp) : rF (mRm_act, 0, [(0, sA x0), (1, sI x1), (2, sI x2), (3, sI x3), (4, sI x4)], [], σ) =
  (rcv σ [sA x0, sI x1, sI x2, sI x3, sI x4] 0).bind fun _ =>
  (cI rF nRm_canBeMade [sA x0, sI x1, sI x2, sI x3, sI x4] σ).bind fun q6 =>
  if ¬ q6.1 = 0 then
    (gfA (mkO q6.2 1) x0 0 0).bind fun v19 =>
    (gfI (mkO q6.2 1) v19 2 1).bind fun v22 =>
    (gfA (mkO q6.2 1) x0 0 2).bind fun v32 =>
    (alA (mkO q6.2 1) v32 (x1 - x1 / (3 : Int32) * (3 : Int32))).bind fun v38 =>
    (rcv (mkO q6.2 1) [sA x0, sA v38] 0).bind fun _ =>
    (cJ rF nRm_endsOf [sA x0, sA v38] (mkO q6.2 1)).bind fun q39 =>
    (rcv q39.2 [sA (some (Prod.fst q6.2)), sI (v22 + (1 : Int32)), sI x2, sI x1, sI x3, sJ q39.1] 1).bind fun _ =>
    (cV rF nEv_init [sA (some (Prod.fst q6.2)), sI (v22 + (1 : Int32)), sI x2, sI x1, sI x3, sJ q39.1] q39.2).bind fun q42 =>
    (gfA q42 x0 0 1).bind fun v48 =>
    (gfJ q42 (some (Prod.fst q6.2)) 1 4).bind fun v53 =>
    (gfA q42 (some (Prod.fst q6.2)) 1 5).bind fun v58 =>
    (rcv q42 [sA v48, sJ v53, sA v58] 4).bind fun _ =>
    (cV rF nRe_resolve [sA v48, sJ v53, sA v58] q42).bind fun q61 =>
    (rcv q61 [sA (some (Prod.fst q6.2)), sI x4] 1).bind fun _ =>
    (cV rF nEv_takeValue [sA (some (Prod.fst q6.2)), sI x4] q61).bind fun q68 =>
    (gfA q68 (some (Prod.fst q6.2)) 1 5).bind fun v73 =>
    (rcv q68 [sA v73, sA (some (Prod.fst q6.2))] 6).bind fun _ =>
    (cI rF nSt_allows [sA v73, sA (some (Prod.fst q6.2))] q68).bind fun q78 =>
    if ¬ q78.1 = 0 then
      (rcv q78.2 [sA x0, sA (some (Prod.fst q6.2))] 0).bind fun _ =>
      (cV rF nRm_publish [sA x0, sA (some (Prod.fst q6.2))] q78.2).bind fun q89 =>
      (gfI q89 (some (Prod.fst q6.2)) 1 0).bind fun v94 =>
      some (some (sI v94), q89)
    else
      some (some (sI (-1 : Int32)), q78.2)
  else
    some (some (sI (-1 : Int32)), q6.2)
  := (blk_eq sRm_act 57 _).trans rfl

-- MeshRoom.branch(IIIII)I
noncomputable def fRm_branch_41 (σ : Hp) : Option Rs := rF (mRm_branch, 41, [], [], σ)
set_option maxRecDepth 100000 in
set_option maxHeartbeats 4000000 in
theorem eRm_branch (x0 : Option Nat) (x1 : Int32) (x2 : Int32) (x3 : Int32) (x4 : Int32) (x5 : Int32) (σ : Hp) : rF (mRm_branch, 0, [(0, sA x0), (1, sI x1), (2, sI x2), (3, sI x3), (4, sI x4), (5, sI x5)], [], σ) =
  (rcv σ [sA x0, sI x1, sI x2, sI x3, sI x4] 0).bind fun _ =>
  (cI rF nRm_canBeMade [sA x0, sI x1, sI x2, sI x3, sI x4] σ).bind fun q6 =>
  if q6.1 = 0 then
    fRm_branch_41 q6.2
  else
    (gfA q6.2 x0 0 0).bind fun v13 =>
    (rcv q6.2 [sA v13, sI x5] 2).bind fun _ =>
    (cI rF nHi_has [sA v13, sI x5] q6.2).bind fun q18 =>
    if q18.1 = 0 then
      fRm_branch_41 q18.2
    else
      (gfA q18.2 x0 0 2).bind fun v25 =>
      (alA q18.2 v25 (x1 - x1 / (3 : Int32) * (3 : Int32))).bind fun v31 =>
      (rcv q18.2 [sA v31, sI x5] 5).bind fun _ =>
      (cI rF nSe_standingOf [sA v31, sI x5] q18.2).bind fun q34 =>
      if q34.1 = (2 : Int32) then
        (gfA (mkO q34.2 1) x0 0 0).bind fun v48 =>
        (gfI (mkO q34.2 1) v48 2 1).bind fun v51 =>
        (cJ rF nRm_bit [sI x5] (mkO q34.2 1)).bind fun q61 =>
        (rcv q61.2 [sA (some (Prod.fst q34.2)), sI (v51 + (1 : Int32)), sI x2, sI x1, sI x3, sJ q61.1] 1).bind fun _ =>
        (cV rF nEv_init [sA (some (Prod.fst q34.2)), sI (v51 + (1 : Int32)), sI x2, sI x1, sI x3, sJ q61.1] q61.2).bind fun q64 =>
        (gfA q64 x0 0 1).bind fun v70 =>
        (gfJ q64 (some (Prod.fst q34.2)) 1 4).bind fun v75 =>
        (gfA q64 (some (Prod.fst q34.2)) 1 5).bind fun v80 =>
        (rcv q64 [sA v70, sJ v75, sA v80] 4).bind fun _ =>
        (cV rF nRe_resolve [sA v70, sJ v75, sA v80] q64).bind fun q83 =>
        (rcv q83 [sA (some (Prod.fst q34.2)), sI x4] 1).bind fun _ =>
        (cV rF nEv_takeValue [sA (some (Prod.fst q34.2)), sI x4] q83).bind fun q90 =>
        (rcv q90 [sA x0, sA (some (Prod.fst q34.2))] 0).bind fun _ =>
        (cV rF nRm_publish [sA x0, sA (some (Prod.fst q34.2))] q90).bind fun q96 =>
        (gfI q96 (some (Prod.fst q34.2)) 1 0).bind fun v101 =>
        some (some (sI v101), q96)
      else
        fRm_branch_41 q34.2
  := (blk_eq sRm_branch 59 _).trans rfl
set_option maxRecDepth 100000 in
set_option maxHeartbeats 4000000 in
theorem eRm_branch_41 (σ : Hp) : fRm_branch_41 σ =
  some (some (sI (-1 : Int32)), σ)
  := (blk_eq sRm_branch 59 _).trans rfl

-- MeshRoom.tick(I)Z
noncomputable def fRm_tick_11 (σ : Hp) : Option Rs := rF (mRm_tick, 11, [], [], σ)
set_option maxRecDepth 100000 in
set_option maxHeartbeats 4000000 in
theorem eRm_tick (x0 : Option Nat) (x1 : Int32) (σ : Hp) : rF (mRm_tick, 0, [(0, sA x0), (1, sI x1)], [], σ) =
  if x1 < 0 then
    fRm_tick_11 σ
  else
    if x1 ≤ (1000 : Int32) then
      (gfI σ x0 0 5).bind fun v15 =>
      (pfI σ x0 0 5 (v15 + x1)).bind fun σ20 =>
      rz (1 : Int32) σ20
    else
      fRm_tick_11 σ
  := (blk_eq sRm_tick 20 _).trans rfl
set_option maxRecDepth 100000 in
set_option maxHeartbeats 4000000 in
theorem eRm_tick_11 (σ : Hp) : fRm_tick_11 σ =
  rz (0 : Int32) σ
  := (blk_eq sRm_tick 20 _).trans rfl

-- MeshRoom.offset(II)Z
noncomputable def fRm_offset_19 (σ : Hp) : Option Rs := rF (mRm_offset, 19, [], [], σ)
set_option maxRecDepth 100000 in
set_option maxHeartbeats 4000000 in
theorem eRm_offset (x0 : Option Nat) (x1 : Int32) (x2 : Int32) (σ : Hp) : rF (mRm_offset, 0, [(0, sA x0), (1, sI x1), (2, sI x2)], [], σ) =
  (cI rF nRm_isServer [sI x1] σ).bind fun q1 =>
  if q1.1 = 0 then
    fRm_offset_19 q1.2
  else
    if x2 < (-50 : Int32) then
      fRm_offset_19 q1.2
    else
      if x2 ≤ (50 : Int32) then
        (gfA q1.2 x0 0 2).bind fun v22 =>
        (alA q1.2 v22 x1).bind fun v26 =>
        (pfI q1.2 v26 5 3 x2).bind fun σ28 =>
        rz (1 : Int32) σ28
      else
        fRm_offset_19 q1.2
  := (blk_eq sRm_offset 24 _).trans rfl
set_option maxRecDepth 100000 in
set_option maxHeartbeats 4000000 in
theorem eRm_offset_19 (σ : Hp) : fRm_offset_19 σ =
  rz (0 : Int32) σ
  := (blk_eq sRm_offset 24 _).trans rfl

-- MeshRoom.offer(II)I
noncomputable def fRm_offer_19 (σ : Hp) : Option Rs := rF (mRm_offer, 19, [], [], σ)
set_option maxRecDepth 100000 in
set_option maxHeartbeats 4000000 in
theorem eRm_offer (x0 : Option Nat) (x1 : Int32) (x2 : Int32) (σ : Hp) : rF (mRm_offer, 0, [(0, sA x0), (1, sI x1), (2, sI x2)], [], σ) =
  (cI rF nRm_isServer [sI x1] σ).bind fun q1 =>
  if q1.1 = 0 then
    fRm_offer_19 q1.2
  else
    (cI rF nRm_isServer [sI x2] q1.2).bind fun q8 =>
    if q8.1 = 0 then
      fRm_offer_19 q8.2
    else
      if ¬ x1 = x2 then
        (gfA q8.2 x0 0 2).bind fun v23 =>
        (alA q8.2 v23 x1).bind fun v27 =>
        (rcv q8.2 [sA x0, sA v27] 0).bind fun _ =>
        (cJ rF nRm_endsOf [sA x0, sA v27] q8.2).bind fun q28 =>
        (rcv q28.2 [sA x0, sI (1 : Int32), sJ q28.1, sI x1, sI x2] 0).bind fun _ =>
        (cV rF nRm_sendAll [sA x0, sI (1 : Int32), sJ q28.1, sI x1, sI x2] q28.2).bind fun q37 =>
        (cI rF nLo_bitCount [sJ q28.1] q37).bind fun q41 =>
        some (some (sI q41.1), q41.2)
      else
        fRm_offer_19 q8.2
  := (blk_eq sRm_offer 32 _).trans rfl
set_option maxRecDepth 100000 in
set_option maxHeartbeats 4000000 in
theorem eRm_offer_19 (σ : Hp) : fRm_offer_19 σ =
  some (some (sI (-1 : Int32)), σ)
  := (blk_eq sRm_offer 32 _).trans rfl

-- MeshRoom.deliver(I)I
noncomputable def fRm_deliver_36 (x2 : Option Nat) (σ : Hp) : Option Rs := rF (mRm_deliver, 36, [(2, sA x2)], [], σ)
set_option maxRecDepth 100000 in
set_option maxHeartbeats 4000000 in
theorem eRm_deliver (x0 : Option Nat) (x1 : Int32) (σ : Hp) : rF (mRm_deliver, 0, [(0, sA x0), (1, sI x1)], [], σ) =
  (gfA σ x0 0 3).bind fun v1 =>
  (rcv σ [sA v1, sI x1] 7).bind fun _ =>
  (cA rF nWi_take [sA v1, sI x1] σ).bind fun q5 =>
  if ¬ q5.1 = none then
    (gfI q5.2 q5.1 3 0).bind fun v16 =>
    if ¬ v16 = (2 : Int32) then
      (rcv q5.2 [sA x0, sA q5.1] 0).bind fun _ =>
      (cV rF nRm_receiveEvent [sA x0, sA q5.1] q5.2).bind fun q33 =>
      fRm_deliver_36 q5.1 q33
    else
      (rcv q5.2 [sA x0, sA q5.1] 0).bind fun _ =>
      (cV rF nRm_answerWant [sA x0, sA q5.1] q5.2).bind fun q25 =>
      fRm_deliver_36 q5.1 q25
  else
    some (some (sI (-1 : Int32)), q5.2)
  := (blk_eq sRm_deliver 28 _).trans rfl
set_option maxRecDepth 100000 in
set_option maxHeartbeats 4000000 in
theorem eRm_deliver_36 (x2 : Option Nat) (σ : Hp) : fRm_deliver_36 x2 σ =
  (gfI σ x2 3 0).bind fun v37 =>
  some (some (sI v37), σ)
  := (blk_eq sRm_deliver 28 _).trans rfl

-- MeshRoom.lose(I)I
noncomputable def fRm_lose_21 (s0 : Int32) (σ : Hp) : Option Rs := rF (mRm_lose, 21, [], [sI s0], σ)
set_option maxRecDepth 100000 in
set_option maxHeartbeats 4000000 in
theorem eRm_lose (x0 : Option Nat) (x1 : Int32) (σ : Hp) : rF (mRm_lose, 0, [(0, sA x0), (1, sI x1)], [], σ) =
  (gfA σ x0 0 3).bind fun v1 =>
  (rcv σ [sA v1, sI x1] 7).bind fun _ =>
  (cA rF nWi_take [sA v1, sI x1] σ).bind fun q5 =>
  if ¬ q5.1 = none then
    (gfI q5.2 q5.1 3 0).bind fun v18 =>
    fRm_lose_21 v18 q5.2
  else
    fRm_lose_21 (-1 : Int32) q5.2
  := (blk_eq sRm_lose 17 _).trans rfl
set_option maxRecDepth 100000 in
set_option maxHeartbeats 4000000 in
theorem eRm_lose_21 (s0 : Int32) (σ : Hp) : fRm_lose_21 s0 σ =
  some (some (sI s0), σ)
  := (blk_eq sRm_lose 17 _).trans rfl

-- MeshRoom.spoil(I)Z
noncomputable def fRm_spoil_28 (σ : Hp) : Option Rs := rF (mRm_spoil, 28, [], [], σ)
set_option maxRecDepth 100000 in
set_option maxHeartbeats 4000000 in
theorem eRm_spoil (x0 : Option Nat) (x1 : Int32) (σ : Hp) : rF (mRm_spoil, 0, [(0, sA x0), (1, sI x1)], [], σ) =
  (gfA σ x0 0 3).bind fun v1 =>
  (rcv σ [sA v1, sI x1] 7).bind fun _ =>
  (cA rF nWi_find [sA v1, sI x1] σ).bind fun q5 =>
  if q5.1 = none then
    fRm_spoil_28 q5.2
  else
    (gfI q5.2 q5.1 3 0).bind fun v14 =>
    if v14 = (2 : Int32) then
      fRm_spoil_28 q5.2
    else
      (gfI q5.2 q5.1 3 4).bind fun v22 =>
      if v22 = 0 then
        (pfZ q5.2 q5.1 3 4 (1 : Int32)).bind fun σ32 =>
        rz (1 : Int32) σ32
      else
        fRm_spoil_28 q5.2
  := (blk_eq sRm_spoil 26 _).trans rfl
set_option maxRecDepth 100000 in
set_option maxHeartbeats 4000000 in
theorem eRm_spoil_28 (σ : Hp) : fRm_spoil_28 σ =
  rz (0 : Int32) σ
  := (blk_eq sRm_spoil 26 _).trans rfl

-- MeshRoom.flying()I
set_option maxRecDepth 100000 in
set_option maxHeartbeats 4000000 in
theorem eRm_flying (x0 : Option Nat) (σ : Hp) : rF (mRm_flying, 0, [(0, sA x0)], [], σ) =
  (gfA σ x0 0 3).bind fun v1 =>
  (gfI σ v1 7 1).bind fun v4 =>
  some (some (sI v4), σ)
  := (blk_eq sRm_flying 9 _).trans rfl

-- MeshRoom.message(I)I
noncomputable def fRm_message_21 (s0 : Int32) (σ : Hp) : Option Rs := rF (mRm_message, 21, [], [sI s0], σ)
set_option maxRecDepth 100000 in
set_option maxHeartbeats 4000000 in
theorem eRm_message (x0 : Option Nat) (x1 : Int32) (σ : Hp) : rF (mRm_message, 0, [(0, sA x0), (1, sI x1)], [], σ) =
  (gfA σ x0 0 3).bind fun v1 =>
  (rcv σ [sA v1, sI x1] 7).bind fun _ =>
  (cA rF nWi_find [sA v1, sI x1] σ).bind fun q5 =>
  if ¬ q5.1 = none then
    (rcv q5.2 [sA q5.1] 3).bind fun _ =>
    (cI rF nMe_code [sA q5.1] q5.2).bind fun q18 =>
    fRm_message_21 q18.1 q18.2
  else
    fRm_message_21 (-1 : Int32) q5.2
  := (blk_eq sRm_message 17 _).trans rfl
set_option maxRecDepth 100000 in
set_option maxHeartbeats 4000000 in
theorem eRm_message_21 (s0 : Int32) (σ : Hp) : fRm_message_21 s0 σ =
  some (some (sI s0), σ)
  := (blk_eq sRm_message 17 _).trans rfl

-- MeshRoom.status(II)I
noncomputable def fRm_status_18 (σ : Hp) : Option Rs := rF (mRm_status, 18, [], [], σ)
set_option maxRecDepth 100000 in
set_option maxHeartbeats 4000000 in
theorem eRm_status (x0 : Option Nat) (x1 : Int32) (x2 : Int32) (σ : Hp) : rF (mRm_status, 0, [(0, sA x0), (1, sI x1), (2, sI x2)], [], σ) =
  (cI rF nRm_isServer [sI x1] σ).bind fun q1 =>
  if q1.1 = 0 then
    fRm_status_18 q1.2
  else
    (gfA q1.2 x0 0 0).bind fun v8 =>
    (rcv q1.2 [sA v8, sI x2] 2).bind fun _ =>
    (cI rF nHi_has [sA v8, sI x2] q1.2).bind fun q12 =>
    if ¬ q12.1 = 0 then
      (gfA q12.2 x0 0 2).bind fun v21 =>
      (alA q12.2 v21 x1).bind fun v25 =>
      (rcv q12.2 [sA v25, sI x2] 5).bind fun _ =>
      (cI rF nSe_standingOf [sA v25, sI x2] q12.2).bind fun q27 =>
      some (some (sI q27.1), q27.2)
    else
      fRm_status_18 q12.2
  := (blk_eq sRm_status 22 _).trans rfl
set_option maxRecDepth 100000 in
set_option maxHeartbeats 4000000 in
theorem eRm_status_18 (σ : Hp) : fRm_status_18 σ =
  some (some (sI (-1 : Int32)), σ)
  := (blk_eq sRm_status 22 _).trans rfl

-- MeshRoom.ends(I)I
noncomputable def fRm_ends_24 (s0 : Int32) (σ : Hp) : Option Rs := rF (mRm_ends, 24, [], [sI s0], σ)
set_option maxRecDepth 100000 in
set_option maxHeartbeats 4000000 in
theorem eRm_ends (x0 : Option Nat) (x1 : Int32) (σ : Hp) : rF (mRm_ends, 0, [(0, sA x0), (1, sI x1)], [], σ) =
  (cI rF nRm_isServer [sI x1] σ).bind fun q1 =>
  if q1.1 = 0 then
    fRm_ends_24 (-1 : Int32) q1.2
  else
    (gfA q1.2 x0 0 2).bind fun v9 =>
    (alA q1.2 v9 x1).bind fun v13 =>
    (rcv q1.2 [sA x0, sA v13] 0).bind fun _ =>
    (cJ rF nRm_endsOf [sA x0, sA v13] q1.2).bind fun q14 =>
    (cI rF nLo_bitCount [sJ q14.1] q14.2).bind fun q17 =>
    fRm_ends_24 q17.1 q17.2
  := (blk_eq sRm_ends 18 _).trans rfl
set_option maxRecDepth 100000 in
set_option maxHeartbeats 4000000 in
theorem eRm_ends_24 (s0 : Int32) (σ : Hp) : fRm_ends_24 s0 σ =
  some (some (sI s0), σ)
  := (blk_eq sRm_ends 18 _).trans rfl

-- MeshRoom.current(II)I
noncomputable def fRm_current_14 (σ : Hp) : Option Rs := rF (mRm_current, 14, [], [], σ)
set_option maxRecDepth 100000 in
set_option maxHeartbeats 4000000 in
theorem eRm_current (x0 : Option Nat) (x1 : Int32) (x2 : Int32) (σ : Hp) : rF (mRm_current, 0, [(0, sA x0), (1, sI x1), (2, sI x2)], [], σ) =
  (cI rF nRm_isServer [sI x1] σ).bind fun q1 =>
  if q1.1 = 0 then
    fRm_current_14 q1.2
  else
    (cI rF nRm_isKey [sI x2] q1.2).bind fun q8 =>
    if ¬ q8.1 = 0 then
      (gfA q8.2 x0 0 1).bind fun v17 =>
      (gfA q8.2 x0 0 2).bind fun v22 =>
      (alA q8.2 v22 x1).bind fun v26 =>
      (rcv q8.2 [sA x0, sA v26] 0).bind fun _ =>
      (cJ rF nRm_endsOf [sA x0, sA v26] q8.2).bind fun q27 =>
      (gfA q27.2 x0 0 4).bind fun v31 =>
      (rcv q27.2 [sA v17, sJ q27.1, sA v31] 4).bind fun _ =>
      (cV rF nRe_resolve [sA v17, sJ q27.1, sA v31] q27.2).bind fun q34 =>
      (gfA q34 x0 0 4).bind fun v38 =>
      (rcv q34 [sA v38, sI x2] 6).bind fun _ =>
      (cI rF nSt_numberAt [sA v38, sI x2] q34).bind fun q42 =>
      some (some (sI q42.1), q42.2)
    else
      fRm_current_14 q8.2
  := (blk_eq sRm_current 29 _).trans rfl
set_option maxRecDepth 100000 in
set_option maxHeartbeats 4000000 in
theorem eRm_current_14 (σ : Hp) : fRm_current_14 σ =
  some (some (sI (-1 : Int32)), σ)
  := (blk_eq sRm_current 29 _).trans rfl

-- MeshRoom.member(II)I
noncomputable def fRm_member_14 (σ : Hp) : Option Rs := rF (mRm_member, 14, [], [], σ)
set_option maxRecDepth 100000 in
set_option maxHeartbeats 4000000 in
theorem eRm_member (x0 : Option Nat) (x1 : Int32) (x2 : Int32) (σ : Hp) : rF (mRm_member, 0, [(0, sA x0), (1, sI x1), (2, sI x2)], [], σ) =
  (cI rF nRm_isServer [sI x1] σ).bind fun q1 =>
  if q1.1 = 0 then
    fRm_member_14 q1.2
  else
    (cI rF nRm_isUser [sI x2] q1.2).bind fun q8 =>
    if ¬ q8.1 = 0 then
      (gfA q8.2 x0 0 1).bind fun v17 =>
      (gfA q8.2 x0 0 2).bind fun v22 =>
      (alA q8.2 v22 x1).bind fun v26 =>
      (rcv q8.2 [sA x0, sA v26] 0).bind fun _ =>
      (cJ rF nRm_endsOf [sA x0, sA v26] q8.2).bind fun q27 =>
      (gfA q27.2 x0 0 4).bind fun v31 =>
      (rcv q27.2 [sA v17, sJ q27.1, sA v31] 4).bind fun _ =>
      (cV rF nRe_resolve [sA v17, sJ q27.1, sA v31] q27.2).bind fun q34 =>
      (gfA q34 x0 0 4).bind fun v38 =>
      (rcv q34 [sA v38, sI x2] 6).bind fun _ =>
      (cI rF nSt_membership [sA v38, sI x2] q34).bind fun q42 =>
      (gfA q42.2 x0 0 4).bind fun v48 =>
      (rcv q42.2 [sA v48, sI x2] 6).bind fun _ =>
      (cI rF nSt_level [sA v48, sI x2] q42.2).bind fun q52 =>
      some (some (sI (q42.1 + ((8 : Int32) * q52.1))), q52.2)
    else
      fRm_member_14 q8.2
  := (blk_eq sRm_member 36 _).trans rfl
set_option maxRecDepth 100000 in
set_option maxHeartbeats 4000000 in
theorem eRm_member_14 (σ : Hp) : fRm_member_14 σ =
  some (some (sI (-1 : Int32)), σ)
  := (blk_eq sRm_member 36 _).trans rfl

-- MeshRoom.after(II)I
noncomputable def fRm_after_20 (σ : Hp) : Option Rs := rF (mRm_after, 20, [], [], σ)
set_option maxRecDepth 100000 in
set_option maxHeartbeats 4000000 in
theorem eRm_after (x0 : Option Nat) (x1 : Int32) (x2 : Int32) (σ : Hp) : rF (mRm_after, 0, [(0, sA x0), (1, sI x1), (2, sI x2)], [], σ) =
  (gfA σ x0 0 0).bind fun v1 =>
  (rcv σ [sA v1, sI x1] 2).bind fun _ =>
  (cA rF nHi_find [sA v1, sI x1] σ).bind fun q5 =>
  if q5.1 = none then
    fRm_after_20 q5.2
  else
    (cI rF nRm_isKey [sI x2] q5.2).bind fun q14 =>
    if ¬ q14.1 = 0 then
      (gfA q14.2 q5.1 1 7).bind fun v23 =>
      (rcv q14.2 [sA v23, sI x2] 6).bind fun _ =>
      (cI rF nSt_numberAt [sA v23, sI x2] q14.2).bind fun q27 =>
      some (some (sI q27.1), q27.2)
    else
      fRm_after_20 q14.2
  := (blk_eq sRm_after 22 _).trans rfl
set_option maxRecDepth 100000 in
set_option maxHeartbeats 4000000 in
theorem eRm_after_20 (σ : Hp) : fRm_after_20 σ =
  some (some (sI (-1 : Int32)), σ)
  := (blk_eq sRm_after 22 _).trans rfl

-- MeshRoom.event(II)I
noncomputable def fRm_event_129 (s0 : Int32) (σ : Hp) : Option Rs := rF (mRm_event, 129, [], [sI s0], σ)
set_option maxRecDepth 100000 in
set_option maxHeartbeats 4000000 in
theorem eRm_event (x0 : Option Nat) (x1 : Int32) (x2 : Int32) (σ : Hp) : rF (mRm_event, 0, [(0, sA x0), (1, sI x1), (2, sI x2)], [], σ) =
  (gfA σ x0 0 0).bind fun v1 =>
  (rcv σ [sA v1, sI x1] 2).bind fun _ =>
  (cA rF nHi_find [sA v1, sI x1] σ).bind fun q5 =>
  if ¬ q5.1 = none then
    if x2 = (0 : Int32) then
      (gfI q5.2 q5.1 1 1).bind fun v69 =>
      some (some (sI v69), q5.2)
    else
     if x2 = (1 : Int32) then
      (gfI q5.2 q5.1 1 2).bind fun v74 =>
      some (some (sI v74), q5.2)
     else
      if x2 = (2 : Int32) then
      (gfI q5.2 q5.1 1 3).bind fun v79 =>
      some (some (sI v79), q5.2)
      else
       if x2 = (3 : Int32) then
      (gfI q5.2 q5.1 1 8).bind fun v84 =>
      some (some (sI v84), q5.2)
       else
        if x2 = (4 : Int32) then
      (gfI q5.2 q5.1 1 9).bind fun v89 =>
      some (some (sI v89), q5.2)
        else
         if x2 = (5 : Int32) then
      (gfJ q5.2 q5.1 1 4).bind fun v94 =>
      (cI rF nLo_bitCount [sJ v94] q5.2).bind fun q97 =>
      some (some (sI q97.1), q97.2)
         else
          if x2 = (6 : Int32) then
      (gfJ q5.2 q5.1 1 10).bind fun v102 =>
      (cI rF nLo_bitCount [sJ v102] q5.2).bind fun q105 =>
      some (some (sI q105.1), q105.2)
          else
           if x2 = (7 : Int32) then
      (gfJ q5.2 q5.1 1 11).bind fun v110 =>
      (cI rF nLo_bitCount [sJ v110] q5.2).bind fun q113 =>
      some (some (sI q113.1), q113.2)
           else
            if x2 = (8 : Int32) then
      (gfI q5.2 q5.1 1 12).bind fun v118 =>
      if v118 = 0 then
        fRm_event_129 (0 : Int32) q5.2
      else
        fRm_event_129 (1 : Int32) q5.2
            else
              some (some (sI (-1 : Int32)), q5.2)
  else
    some (some (sI (-1 : Int32)), q5.2)
  := (blk_eq sRm_event 52 _).trans rfl
set_option maxRecDepth 100000 in
set_option maxHeartbeats 4000000 in
theorem eRm_event_129 (s0 : Int32) (σ : Hp) : fRm_event_129 s0 σ =
  some (some (sI s0), σ)
  := (blk_eq sRm_event 52 _).trans rfl

-- MeshRoom.linked(II)I
noncomputable def fRm_linked_24 (σ : Hp) : Option Rs := rF (mRm_linked, 24, [], [], σ)
noncomputable def fRm_linked_42 (x2 : Int32) (x3 : Option Nat) (s0 : Int32) (σ : Hp) : Option Rs := rF (mRm_linked, 42, [(2, sI x2), (3, sA x3)], [sI s0], σ)
noncomputable def fRm_linked_58 (x2 : Int32) (x3 : Option Nat) (s0 : Int32) (s1 : Int32) (σ : Hp) : Option Rs := rF (mRm_linked, 58, [(2, sI x2), (3, sA x3)], [sI s1, sI s0], σ)
noncomputable def fRm_linked_75 (s0 : Int32) (s1 : Int32) (σ : Hp) : Option Rs := rF (mRm_linked, 75, [], [sI s1, sI s0], σ)
set_option maxRecDepth 100000 in
set_option maxHeartbeats 4000000 in
theorem eRm_linked (x0 : Option Nat) (x1 : Int32) (x2 : Int32) (σ : Hp) : rF (mRm_linked, 0, [(0, sA x0), (1, sI x1), (2, sI x2)], [], σ) =
  (gfA σ x0 0 0).bind fun v1 =>
  (rcv σ [sA v1, sI x1] 2).bind fun _ =>
  (cA rF nHi_find [sA v1, sI x1] σ).bind fun q5 =>
  if q5.1 = none then
    fRm_linked_24 q5.2
  else
    (gfA q5.2 x0 0 0).bind fun v14 =>
    (rcv q5.2 [sA v14, sI x2] 2).bind fun _ =>
    (cI rF nHi_has [sA v14, sI x2] q5.2).bind fun q18 =>
    if ¬ q18.1 = 0 then
      (gfJ q18.2 q5.1 1 4).bind fun v28 =>
      (cI rF nRm_isIn [sI x2, sJ v28] q18.2).bind fun q31 =>
      if q31.1 = 0 then
        fRm_linked_42 x2 q5.1 (0 : Int32) q31.2
      else
        fRm_linked_42 x2 q5.1 (1 : Int32) q31.2
    else
      fRm_linked_24 q18.2
  := (blk_eq sRm_linked 46 _).trans rfl
set_option maxRecDepth 100000 in
set_option maxHeartbeats 4000000 in
theorem eRm_linked_24 (σ : Hp) : fRm_linked_24 σ =
  some (some (sI (0 : Int32)), σ)
  := (blk_eq sRm_linked 46 _).trans rfl
set_option maxRecDepth 100000 in
set_option maxHeartbeats 4000000 in
theorem eRm_linked_42 (x2 : Int32) (x3 : Option Nat) (s0 : Int32) (σ : Hp) : fRm_linked_42 x2 x3 s0 σ =
  (gfJ σ x3 1 10).bind fun v44 =>
  (cI rF nRm_isIn [sI x2, sJ v44] σ).bind fun q47 =>
  if q47.1 = 0 then
    fRm_linked_58 x2 x3 s0 (0 : Int32) q47.2
  else
    fRm_linked_58 x2 x3 s0 (2 : Int32) q47.2
  := (blk_eq sRm_linked 46 _).trans rfl
set_option maxRecDepth 100000 in
set_option maxHeartbeats 4000000 in
theorem eRm_linked_58 (x2 : Int32) (x3 : Option Nat) (s0 : Int32) (s1 : Int32) (σ : Hp) : fRm_linked_58 x2 x3 s0 s1 σ =
  (gfJ σ x3 1 11).bind fun v61 =>
  (cI rF nRm_isIn [sI x2, sJ v61] σ).bind fun q64 =>
  if q64.1 = 0 then
    fRm_linked_75 (s0 + s1) (0 : Int32) q64.2
  else
    fRm_linked_75 (s0 + s1) (4 : Int32) q64.2
  := (blk_eq sRm_linked 46 _).trans rfl
set_option maxRecDepth 100000 in
set_option maxHeartbeats 4000000 in
theorem eRm_linked_75 (s0 : Int32) (s1 : Int32) (σ : Hp) : fRm_linked_75 s0 s1 σ =
  some (some (sI (s0 + s1)), σ)
  := (blk_eq sRm_linked 46 _).trans rfl

-- MeshRoom.canBeMade(IIII)Z
noncomputable def fRm_canBeMade_25 (σ : Hp) : Option Rs := rF (mRm_canBeMade, 25, [], [], σ)
noncomputable def fRm_canBeMade_43 (σ : Hp) : Option Rs := rF (mRm_canBeMade, 43, [], [], σ)
noncomputable def fRm_canBeMade_45 (x0 : Option Nat) (x2 : Int32) (x4 : Int32) (σ : Hp) : Option Rs := rF (mRm_canBeMade, 45, [(0, sA x0), (2, sI x2), (4, sI x4)], [], σ)
noncomputable def fRm_canBeMade_64 (x0 : Option Nat) (σ : Hp) : Option Rs := rF (mRm_canBeMade, 64, [(0, sA x0)], [], σ)
noncomputable def fRm_canBeMade_81 (s0 : Int32) (σ : Hp) : Option Rs := rF (mRm_canBeMade, 81, [], [sI s0], σ)
set_option maxRecDepth 100000 in
set_option maxHeartbeats 4000000 in
theorem eRm_canBeMade (x0 : Option Nat) (x1 : Int32) (x2 : Int32) (x3 : Int32) (x4 : Int32) (σ : Hp) : rF (mRm_canBeMade, 0, [(0, sA x0), (1, sI x1), (2, sI x2), (3, sI x3), (4, sI x4)], [], σ) =
  (cI rF nRm_isUser [sI x1] σ).bind fun q1 =>
  if q1.1 = 0 then
    fRm_canBeMade_25 q1.2
  else
    (cI rF nRm_isUser [sI x3] q1.2).bind fun q8 =>
    if q8.1 = 0 then
      fRm_canBeMade_25 q8.2
    else
      if x2 < (1 : Int32) then
        fRm_canBeMade_25 q8.2
      else
        if x2 ≤ (7 : Int32) then
          if ¬ x2 = (5 : Int32) then
            fRm_canBeMade_45 x0 x2 x4 q8.2
          else
            if x4 < 0 then
              fRm_canBeMade_43 q8.2
            else
              if x4 ≤ (3 : Int32) then
                fRm_canBeMade_45 x0 x2 x4 q8.2
              else
                fRm_canBeMade_43 q8.2
        else
          fRm_canBeMade_25 q8.2
  := (blk_eq sRm_canBeMade 48 _).trans rfl
set_option maxRecDepth 100000 in
set_option maxHeartbeats 4000000 in
theorem eRm_canBeMade_25 (σ : Hp) : fRm_canBeMade_25 σ =
  rz (0 : Int32) σ
  := (blk_eq sRm_canBeMade 48 _).trans rfl
set_option maxRecDepth 100000 in
set_option maxHeartbeats 4000000 in
theorem eRm_canBeMade_43 (σ : Hp) : fRm_canBeMade_43 σ =
  rz (0 : Int32) σ
  := (blk_eq sRm_canBeMade 48 _).trans rfl
set_option maxRecDepth 100000 in
set_option maxHeartbeats 4000000 in
theorem eRm_canBeMade_45 (x0 : Option Nat) (x2 : Int32) (x4 : Int32) (σ : Hp) : fRm_canBeMade_45 x0 x2 x4 σ =
  if ¬ x2 = (6 : Int32) then
    fRm_canBeMade_64 x0 σ
  else
    if x4 = 0 then
      fRm_canBeMade_64 x0 σ
    else
      if x4 = (1 : Int32) then
        fRm_canBeMade_64 x0 σ
      else
        rz (0 : Int32) σ
  := (blk_eq sRm_canBeMade 48 _).trans rfl
set_option maxRecDepth 100000 in
set_option maxHeartbeats 4000000 in
theorem eRm_canBeMade_64 (x0 : Option Nat) (σ : Hp) : fRm_canBeMade_64 x0 σ =
  (gfA σ x0 0 0).bind fun v65 =>
  (gfI σ v65 2 1).bind fun v68 =>
  if (40 : Int32) ≤ v68 then
    fRm_canBeMade_81 (0 : Int32) σ
  else
    fRm_canBeMade_81 (1 : Int32) σ
  := (blk_eq sRm_canBeMade 48 _).trans rfl
set_option maxRecDepth 100000 in
set_option maxHeartbeats 4000000 in
theorem eRm_canBeMade_81 (s0 : Int32) (σ : Hp) : fRm_canBeMade_81 s0 σ =
  rz s0 σ
  := (blk_eq sRm_canBeMade 48 _).trans rfl

-- MeshRoom.publish(LMeshRoom$Event;)V
noncomputable def fRm_publish_58 (x0 : Option Nat) (x1 : Option Nat) (x2 : Int32) (σ : Hp) : Option Rs := rF (mRm_publish, 58, [(0, sA x0), (1, sA x1), (2, sI x2)], [], σ)
noncomputable def fRm_publish_69 (x0 : Option Nat) (x1 : Option Nat) (x2 : Int32) (σ : Hp) : Option Rs := rF (mRm_publish, 69, [(0, sA x0), (1, sA x1), (2, sI x2)], [], σ)
noncomputable def fRm_publish_90 (x0 : Option Nat) (x1 : Option Nat) (x2 : Int32) (x3 : Int32) (σ : Hp) : Option Rs := rF (mRm_publish, 90, [(0, sA x0), (1, sA x1), (2, sI x2), (3, sI x3)], [], σ)
noncomputable def fRm_publish_114 (x0 : Option Nat) (x1 : Option Nat) (x2 : Int32) (x3 : Int32) (σ : Hp) : Option Rs := rF (mRm_publish, 114, [(0, sA x0), (1, sA x1), (2, sI x2), (3, sI x3)], [], σ)
set_option maxRecDepth 100000 in
set_option maxHeartbeats 4000000 in
theorem eRm_publish (x0 : Option Nat) (x1 : Option Nat) (σ : Hp) : rF (mRm_publish, 0, [(0, sA x0), (1, sA x1)], [], σ) =
  (gfI σ x1 1 2).bind fun v1 =>
  (gfI σ x0 0 5).bind fun v9 =>
  (gfA σ x0 0 2).bind fun v13 =>
  (alA σ v13 (v1 - v1 / (3 : Int32) * (3 : Int32))).bind fun v17 =>
  (gfI σ v17 5 3).bind fun v18 =>
  (pfI σ x1 1 9 (v9 + v18)).bind fun σ22 =>
  (rcv σ22 [sA x1] 1).bind fun _ =>
  (cV rF nEv_takeAuths [sA x1] σ22).bind fun q26 =>
  (gfA q26 x1 1 6).bind fun v30 =>
  (rcv q26 [sA v30, sA x1] 6).bind fun _ =>
  (cI rF nSt_allows [sA v30, sA x1] q26).bind fun q34 =>
  if q34.1 = 0 then
    fRm_publish_58 x0 x1 (v1 - v1 / (3 : Int32) * (3 : Int32)) q34.2
  else
    (gfA q34.2 x1 1 5).bind fun v41 =>
    (rcv q34.2 [sA v41, sA x1] 6).bind fun _ =>
    (cI rF nSt_allows [sA v41, sA x1] q34.2).bind fun q45 =>
    if q45.1 = 0 then
      fRm_publish_58 x0 x1 (v1 - v1 / (3 : Int32) * (3 : Int32)) q45.2
    else
      (rcv q45.2 [sA x1] 1).bind fun _ =>
      (cV rF nEv_makeGood [sA x1] q45.2).bind fun q52 =>
      fRm_publish_69 x0 x1 (v1 - v1 / (3 : Int32) * (3 : Int32)) q52
  := (blk_eq sRm_publish 70 _).trans rfl
set_option maxRecDepth 100000 in
set_option maxHeartbeats 4000000 in
theorem eRm_publish_58 (x0 : Option Nat) (x1 : Option Nat) (x2 : Int32) (σ : Hp) : fRm_publish_58 x0 x1 x2 σ =
  (gfA σ x1 1 7).bind fun v59 =>
  (gfA σ x1 1 5).bind fun v63 =>
  (rcv σ [sA v59, sA v63] 6).bind fun _ =>
  (cV rF nSt_copyFrom [sA v59, sA v63] σ).bind fun q66 =>
  fRm_publish_69 x0 x1 x2 q66
  := (blk_eq sRm_publish 70 _).trans rfl
set_option maxRecDepth 100000 in
set_option maxHeartbeats 4000000 in
theorem eRm_publish_69 (x0 : Option Nat) (x1 : Option Nat) (x2 : Int32) (σ : Hp) : fRm_publish_69 x0 x1 x2 σ =
  (gfA σ x0 0 0).bind fun v70 =>
  (rcv σ [sA v70, sA x1] 2).bind fun _ =>
  (cV rF nHi_keep [sA v70, sA x1] σ).bind fun q74 =>
  (gfA q74 x0 0 2).bind fun v79 =>
  (alA q74 v79 x2).bind fun v83 =>
  (rcv q74 [sA x0, sA v83, sA x1] 0).bind fun _ =>
  (cV rF nRm_lookAt [sA x0, sA v83, sA x1] q74).bind fun q85 =>
  fRm_publish_90 x0 x1 x2 (0 : Int32) q85
  := (blk_eq sRm_publish 70 _).trans rfl
set_option maxRecDepth 100000 in
set_option maxHeartbeats 4000000 in
theorem eRm_publish_90 (x0 : Option Nat) (x1 : Option Nat) (x2 : Int32) (x3 : Int32) (σ : Hp) : fRm_publish_90 x0 x1 x2 x3 σ =
  if (3 : Int32) ≤ x3 then
    some (none, σ)
  else
    if x3 = x2 then
      fRm_publish_114 x0 x1 x2 x3 σ
    else
      (gfA σ x0 0 3).bind fun v101 =>
      (gfI σ x1 1 0).bind fun v106 =>
      (rcv σ [sA v101, sI (1 : Int32), sI v106, sI x2, sI x3] 7).bind fun _ =>
      (cV rF nWi_send [sA v101, sI (1 : Int32), sI v106, sI x2, sI x3] σ).bind fun q111 =>
      fRm_publish_114 x0 x1 x2 x3 q111
  := (blk_eq sRm_publish 70 _).trans rfl
set_option maxRecDepth 100000 in
set_option maxHeartbeats 4000000 in
theorem eRm_publish_114 (x0 : Option Nat) (x1 : Option Nat) (x2 : Int32) (x3 : Int32) (σ : Hp) : fRm_publish_114 x0 x1 x2 x3 σ =
  fRm_publish_90 x0 x1 x2 (x3 + (1 : Int32)) σ
  := (blk_eq sRm_publish 70 _).trans rfl

-- MeshRoom.lookAt(LMeshRoom$Server;LMeshRoom$Event;)V
noncomputable def fRm_lookAt_5 (x0 : Option Nat) (x1 : Option Nat) (x3 : Option Nat) (x4 : Int32) (σ : Hp) : Option Rs := rF (mRm_lookAt, 5, [(0, sA x0), (1, sA x1), (3, sA x3), (4, sI x4)], [], σ)
noncomputable def fRm_lookAt_33 (σ : Hp) : Option Rs := rF (mRm_lookAt, 33, [], [], σ)
set_option maxRecDepth 100000 in
set_option maxHeartbeats 4000000 in
theorem eRm_lookAt (x0 : Option Nat) (x1 : Option Nat) (x2 : Option Nat) (σ : Hp) : rF (mRm_lookAt, 0, [(0, sA x0), (1, sA x1), (2, sA x2)], [], σ) =
  fRm_lookAt_5 x0 x1 x2 (0 : Int32) σ
  := (blk_eq sRm_lookAt 24 _).trans rfl
set_option maxRecDepth 100000 in
set_option maxHeartbeats 4000000 in
theorem eRm_lookAt_5 (x0 : Option Nat) (x1 : Option Nat) (x3 : Option Nat) (x4 : Int32) (σ : Hp) : fRm_lookAt_5 x0 x1 x3 x4 σ =
  if (40 : Int32) < x4 then
    fRm_lookAt_33 σ
  else
    if x3 = none then
      fRm_lookAt_33 σ
    else
      (rcv σ [sA x1, sA x3] 5).bind fun _ =>
      (cV rF nSe_settle [sA x1, sA x3] σ).bind fun q18 =>
      (rcv q18 [sA x0, sA x1] 0).bind fun _ =>
      (cA rF nRm_firstReady [sA x0, sA x1] q18).bind fun q23 =>
      fRm_lookAt_5 x0 x1 q23.1 (x4 + (1 : Int32)) q23.2
  := (blk_eq sRm_lookAt 24 _).trans rfl
set_option maxRecDepth 100000 in
set_option maxHeartbeats 4000000 in
theorem eRm_lookAt_33 (σ : Hp) : fRm_lookAt_33 σ =
  some (none, σ)
  := (blk_eq sRm_lookAt 24 _).trans rfl

-- MeshRoom.firstReady(LMeshRoom$Server;)LMeshRoom$Event;
noncomputable def fRm_firstReady_2 (x0 : Option Nat) (x1 : Option Nat) (x2 : Int32) (σ : Hp) : Option Rs := rF (mRm_firstReady, 2, [(0, sA x0), (1, sA x1), (2, sI x2)], [], σ)
noncomputable def fRm_firstReady_45 (x0 : Option Nat) (x1 : Option Nat) (x2 : Int32) (σ : Hp) : Option Rs := rF (mRm_firstReady, 45, [(0, sA x0), (1, sA x1), (2, sI x2)], [], σ)
set_option maxRecDepth 100000 in
set_option maxHeartbeats 4000000 in
theorem eRm_firstReady (x0 : Option Nat) (x1 : Option Nat) (σ : Hp) : rF (mRm_firstReady, 0, [(0, sA x0), (1, sA x1)], [], σ) =
  fRm_firstReady_2 x0 x1 (1 : Int32) σ
  := (blk_eq sRm_firstReady 34 _).trans rfl
set_option maxRecDepth 100000 in
set_option maxHeartbeats 4000000 in
theorem eRm_firstReady_2 (x0 : Option Nat) (x1 : Option Nat) (x2 : Int32) (σ : Hp) : fRm_firstReady_2 x0 x1 x2 σ =
  (gfA σ x0 0 0).bind fun v4 =>
  (gfI σ v4 2 1).bind fun v7 =>
  if v7 < x2 then
    some (some (sA none), σ)
  else
    (gfA σ x0 0 0).bind fun v14 =>
    (gfJ σ x1 5 0).bind fun v19 =>
    (rcv σ [sA v14, sI x2, sJ v19] 2).bind fun _ =>
    (cA rF nHi_pick [sA v14, sI x2, sJ v19] σ).bind fun q22 =>
    if q22.1 = none then
      fRm_firstReady_45 x0 x1 x2 q22.2
    else
      (gfJ q22.2 q22.1 1 4).bind fun v32 =>
      (rcv q22.2 [sA x1, sJ v32] 5).bind fun _ =>
      (cJ rF nSe_unsettled [sA x1, sJ v32] q22.2).bind fun q35 =>
      if ¬ (lg_cmp q35.1 (0 : Int64)) = 0 then
        fRm_firstReady_45 x0 x1 x2 q35.2
      else
        some (some (sA q22.1), q35.2)
  := (blk_eq sRm_firstReady 34 _).trans rfl
set_option maxRecDepth 100000 in
set_option maxHeartbeats 4000000 in
theorem eRm_firstReady_45 (x0 : Option Nat) (x1 : Option Nat) (x2 : Int32) (σ : Hp) : fRm_firstReady_45 x0 x1 x2 σ =
  fRm_firstReady_2 x0 x1 (x2 + (1 : Int32)) σ
  := (blk_eq sRm_firstReady 34 _).trans rfl

-- MeshRoom.endsOf(LMeshRoom$Server;)J
noncomputable def fRm_endsOf_5 (x0 : Option Nat) (x1 : Option Nat) (x2 : Int64) (x4 : Int32) (σ : Hp) : Option Rs := rF (mRm_endsOf, 5, [(0, sA x0), (1, sA x1), (2, sJ x2), (4, sI x4)], [], σ)
noncomputable def fRm_endsOf_45 (x0 : Option Nat) (x1 : Option Nat) (x2 : Int64) (x4 : Int32) (σ : Hp) : Option Rs := rF (mRm_endsOf, 45, [(0, sA x0), (1, sA x1), (2, sJ x2), (4, sI x4)], [], σ)
set_option maxRecDepth 100000 in
set_option maxHeartbeats 4000000 in
theorem eRm_endsOf (x0 : Option Nat) (x1 : Option Nat) (σ : Hp) : rF (mRm_endsOf, 0, [(0, sA x0), (1, sA x1)], [], σ) =
  fRm_endsOf_5 x0 x1 (0 : Int64) (1 : Int32) σ
  := (blk_eq sRm_endsOf 37 _).trans rfl
set_option maxRecDepth 100000 in
set_option maxHeartbeats 4000000 in
theorem eRm_endsOf_5 (x0 : Option Nat) (x1 : Option Nat) (x2 : Int64) (x4 : Int32) (σ : Hp) : fRm_endsOf_5 x0 x1 x2 x4 σ =
  (gfA σ x0 0 0).bind fun v8 =>
  (gfI σ v8 2 1).bind fun v11 =>
  if v11 < x4 then
    (gfJ σ x1 5 1).bind fun v52 =>
    some (some (sJ (v52 &&& (x2 ^^^ (-1 : Int64)))), σ)
  else
    (gfA σ x0 0 0).bind fun v18 =>
    (gfJ σ x1 5 1).bind fun v24 =>
    (rcv σ [sA v18, sI x4, sJ v24] 2).bind fun _ =>
    (cA rF nHi_pick [sA v18, sI x4, sJ v24] σ).bind fun q27 =>
    if q27.1 = none then
      fRm_endsOf_45 x0 x1 x2 x4 q27.2
    else
      (gfJ q27.2 q27.1 1 4).bind fun v40 =>
      fRm_endsOf_45 x0 x1 (x2 ||| v40) x4 q27.2
  := (blk_eq sRm_endsOf 37 _).trans rfl
set_option maxRecDepth 100000 in
set_option maxHeartbeats 4000000 in
theorem eRm_endsOf_45 (x0 : Option Nat) (x1 : Option Nat) (x2 : Int64) (x4 : Int32) (σ : Hp) : fRm_endsOf_45 x0 x1 x2 x4 σ =
  fRm_endsOf_5 x0 x1 x2 (x4 + (1 : Int32)) σ
  := (blk_eq sRm_endsOf 37 _).trans rfl

-- MeshRoom.receiveEvent(LMeshRoom$Message;)V
noncomputable def fRm_receiveEvent_44 (σ : Hp) : Option Rs := rF (mRm_receiveEvent, 44, [], [], σ)
noncomputable def fRm_receiveEvent_102 (σ : Hp) : Option Rs := rF (mRm_receiveEvent, 102, [], [], σ)
set_option maxRecDepth 100000 in
set_option maxHeartbeats 4000000 in
theorem eRm_receiveEvent (x0 : Option Nat) (x1 : Option Nat) (σ : Hp) : rF (mRm_receiveEvent, 0, [(0, sA x0), (1, sA x1)], [], σ) =
  (gfA σ x0 0 2).bind fun v1 =>
  (gfI σ x1 3 3).bind fun v5 =>
  (alA σ v1 v5).bind fun v8 =>
  (gfA σ x0 0 0).bind fun v11 =>
  (gfI σ x1 3 1).bind fun v15 =>
  (rcv σ [sA v11, sI v15] 2).bind fun _ =>
  (cA rF nHi_find [sA v11, sI v15] σ).bind fun q18 =>
  (gfI q18.2 x1 3 4).bind fun v23 =>
  if ¬ v23 = 0 then
    fRm_receiveEvent_44 q18.2
  else
    if q18.1 = none then
      fRm_receiveEvent_44 q18.2
    else
      (gfI q18.2 x1 3 1).bind fun v35 =>
      (rcv q18.2 [sA v8, sI v35] 5).bind fun _ =>
      (cI rF nSe_isSettled [sA v8, sI v35] q18.2).bind fun q38 =>
      if q38.1 = 0 then
        (gfJ q38.2 q18.1 1 4).bind fun v47 =>
        (rcv q38.2 [sA v8, sJ v47] 5).bind fun _ =>
        (cJ rF nSe_unsettled [sA v8, sJ v47] q38.2).bind fun q50 =>
        if ¬ (lg_cmp q50.1 (0 : Int64)) = 0 then
          (gfJ q50.2 v8 5 0).bind fun v73 =>
          (gfI q50.2 q18.1 1 0).bind fun v77 =>
          (cJ rF nRm_bit [sI v77] q50.2).bind fun q80 =>
          (pfJ q80.2 v8 5 0 (v73 ||| q80.1)).bind fun σ84 =>
          (gfI σ84 x1 3 3).bind fun v92 =>
          (gfI σ84 x1 3 2).bind fun v96 =>
          (rcv σ84 [sA x0, sI (2 : Int32), sJ q50.1, sI v92, sI v96] 0).bind fun _ =>
          (cV rF nRm_sendAll [sA x0, sI (2 : Int32), sJ q50.1, sI v92, sI v96] σ84).bind fun q99 =>
          fRm_receiveEvent_102 q99
        else
          (rcv q50.2 [sA x0, sA v8, sA q18.1] 0).bind fun _ =>
          (cV rF nRm_lookAt [sA x0, sA v8, sA q18.1] q50.2).bind fun q65 =>
          fRm_receiveEvent_102 q65
      else
        fRm_receiveEvent_44 q38.2
  := (blk_eq sRm_receiveEvent 59 _).trans rfl
set_option maxRecDepth 100000 in
set_option maxHeartbeats 4000000 in
theorem eRm_receiveEvent_44 (σ : Hp) : fRm_receiveEvent_44 σ =
  some (none, σ)
  := (blk_eq sRm_receiveEvent 59 _).trans rfl
set_option maxRecDepth 100000 in
set_option maxHeartbeats 4000000 in
theorem eRm_receiveEvent_102 (σ : Hp) : fRm_receiveEvent_102 σ =
  some (none, σ)
  := (blk_eq sRm_receiveEvent 59 _).trans rfl

-- MeshRoom.answerWant(LMeshRoom$Message;)V
noncomputable def fRm_answerWant_39 (σ : Hp) : Option Rs := rF (mRm_answerWant, 39, [], [], σ)
set_option maxRecDepth 100000 in
set_option maxHeartbeats 4000000 in
theorem eRm_answerWant (x0 : Option Nat) (x1 : Option Nat) (σ : Hp) : rF (mRm_answerWant, 0, [(0, sA x0), (1, sA x1)], [], σ) =
  (gfA σ x0 0 2).bind fun v1 =>
  (gfI σ x1 3 3).bind fun v5 =>
  (alA σ v1 v5).bind fun v8 =>
  (gfI σ x1 3 1).bind fun v10 =>
  (rcv σ [sA v8, sI v10] 5).bind fun _ =>
  (cI rF nSe_isSettled [sA v8, sI v10] σ).bind fun q13 =>
  if q13.1 = 0 then
    fRm_answerWant_39 q13.2
  else
    (gfA q13.2 x0 0 3).bind fun v20 =>
    (gfI q13.2 x1 3 1).bind fun v25 =>
    (gfI q13.2 x1 3 3).bind fun v29 =>
    (gfI q13.2 x1 3 2).bind fun v33 =>
    (rcv q13.2 [sA v20, sI (1 : Int32), sI v25, sI v29, sI v33] 7).bind fun _ =>
    (cV rF nWi_send [sA v20, sI (1 : Int32), sI v25, sI v29, sI v33] q13.2).bind fun q36 =>
    fRm_answerWant_39 q36
  := (blk_eq sRm_answerWant 25 _).trans rfl
set_option maxRecDepth 100000 in
set_option maxHeartbeats 4000000 in
theorem eRm_answerWant_39 (σ : Hp) : fRm_answerWant_39 σ =
  some (none, σ)
  := (blk_eq sRm_answerWant 25 _).trans rfl

-- MeshRoom.sendAll(IJII)V
noncomputable def fRm_sendAll_3 (x0 : Option Nat) (x1 : Int32) (x2 : Int64) (x4 : Int32) (x5 : Int32) (x6 : Int32) (σ : Hp) : Option Rs := rF (mRm_sendAll, 3, [(0, sA x0), (1, sI x1), (2, sJ x2), (4, sI x4), (5, sI x5), (6, sI x6)], [], σ)
noncomputable def fRm_sendAll_38 (x0 : Option Nat) (x1 : Int32) (x2 : Int64) (x4 : Int32) (x5 : Int32) (x6 : Int32) (σ : Hp) : Option Rs := rF (mRm_sendAll, 38, [(0, sA x0), (1, sI x1), (2, sJ x2), (4, sI x4), (5, sI x5), (6, sI x6)], [], σ)
set_option maxRecDepth 100000 in
set_option maxHeartbeats 4000000 in
theorem eRm_sendAll (x0 : Option Nat) (x1 : Int32) (x2 : Int64) (x4 : Int32) (x5 : Int32) (σ : Hp) : rF (mRm_sendAll, 0, [(0, sA x0), (1, sI x1), (2, sJ x2), (4, sI x4), (5, sI x5)], [], σ) =
  fRm_sendAll_3 x0 x1 x2 x4 x5 (1 : Int32) σ
  := (blk_eq sRm_sendAll 26 _).trans rfl
set_option maxRecDepth 100000 in
set_option maxHeartbeats 4000000 in
theorem eRm_sendAll_3 (x0 : Option Nat) (x1 : Int32) (x2 : Int64) (x4 : Int32) (x5 : Int32) (x6 : Int32) (σ : Hp) : fRm_sendAll_3 x0 x1 x2 x4 x5 x6 σ =
  (gfA σ x0 0 0).bind fun v6 =>
  (gfI σ v6 2 1).bind fun v9 =>
  if v9 < x6 then
    some (none, σ)
  else
    (cI rF nRm_isIn [sI x6, sJ x2] σ).bind fun q18 =>
    if q18.1 = 0 then
      fRm_sendAll_38 x0 x1 x2 x4 x5 x6 q18.2
    else
      (gfA q18.2 x0 0 3).bind fun v25 =>
      (rcv q18.2 [sA v25, sI x1, sI x6, sI x4, sI x5] 7).bind fun _ =>
      (cV rF nWi_send [sA v25, sI x1, sI x6, sI x4, sI x5] q18.2).bind fun q35 =>
      fRm_sendAll_38 x0 x1 x2 x4 x5 x6 q35
  := (blk_eq sRm_sendAll 26 _).trans rfl
set_option maxRecDepth 100000 in
set_option maxHeartbeats 4000000 in
theorem eRm_sendAll_38 (x0 : Option Nat) (x1 : Int32) (x2 : Int64) (x4 : Int32) (x5 : Int32) (x6 : Int32) (σ : Hp) : fRm_sendAll_38 x0 x1 x2 x4 x5 x6 σ =
  fRm_sendAll_3 x0 x1 x2 x4 x5 (x6 + (1 : Int32)) σ
  := (blk_eq sRm_sendAll 26 _).trans rfl

-- MeshRoom.isUser(I)Z
noncomputable def fRm_isUser_14 (σ : Hp) : Option Rs := rF (mRm_isUser, 14, [], [], σ)
noncomputable def fRm_isUser_15 (s0 : Int32) (σ : Hp) : Option Rs := rF (mRm_isUser, 15, [], [sI s0], σ)
set_option maxRecDepth 100000 in
set_option maxHeartbeats 4000000 in
theorem eRm_isUser (x0 : Int32) (σ : Hp) : rF (mRm_isUser, 0, [(0, sI x0)], [], σ) =
  if x0 < 0 then
    fRm_isUser_14 σ
  else
    if (6 : Int32) ≤ x0 then
      fRm_isUser_14 σ
    else
      fRm_isUser_15 (1 : Int32) σ
  := (blk_eq sRm_isUser 14 _).trans rfl
set_option maxRecDepth 100000 in
set_option maxHeartbeats 4000000 in
theorem eRm_isUser_14 (σ : Hp) : fRm_isUser_14 σ =
  fRm_isUser_15 (0 : Int32) σ
  := (blk_eq sRm_isUser 14 _).trans rfl
set_option maxRecDepth 100000 in
set_option maxHeartbeats 4000000 in
theorem eRm_isUser_15 (s0 : Int32) (σ : Hp) : fRm_isUser_15 s0 σ =
  rz s0 σ
  := (blk_eq sRm_isUser 14 _).trans rfl

-- MeshRoom.isServer(I)Z
noncomputable def fRm_isServer_13 (σ : Hp) : Option Rs := rF (mRm_isServer, 13, [], [], σ)
noncomputable def fRm_isServer_14 (s0 : Int32) (σ : Hp) : Option Rs := rF (mRm_isServer, 14, [], [sI s0], σ)
set_option maxRecDepth 100000 in
set_option maxHeartbeats 4000000 in
theorem eRm_isServer (x0 : Int32) (σ : Hp) : rF (mRm_isServer, 0, [(0, sI x0)], [], σ) =
  if x0 < 0 then
    fRm_isServer_13 σ
  else
    if (3 : Int32) ≤ x0 then
      fRm_isServer_13 σ
    else
      fRm_isServer_14 (1 : Int32) σ
  := (blk_eq sRm_isServer 14 _).trans rfl
set_option maxRecDepth 100000 in
set_option maxHeartbeats 4000000 in
theorem eRm_isServer_13 (σ : Hp) : fRm_isServer_13 σ =
  fRm_isServer_14 (0 : Int32) σ
  := (blk_eq sRm_isServer 14 _).trans rfl
set_option maxRecDepth 100000 in
set_option maxHeartbeats 4000000 in
theorem eRm_isServer_14 (s0 : Int32) (σ : Hp) : fRm_isServer_14 s0 σ =
  rz s0 σ
  := (blk_eq sRm_isServer 14 _).trans rfl

-- MeshRoom.isKey(I)Z
noncomputable def fRm_isKey_14 (σ : Hp) : Option Rs := rF (mRm_isKey, 14, [], [], σ)
noncomputable def fRm_isKey_15 (s0 : Int32) (σ : Hp) : Option Rs := rF (mRm_isKey, 15, [], [sI s0], σ)
set_option maxRecDepth 100000 in
set_option maxHeartbeats 4000000 in
theorem eRm_isKey (x0 : Int32) (σ : Hp) : rF (mRm_isKey, 0, [(0, sI x0)], [], σ) =
  if x0 < 0 then
    fRm_isKey_14 σ
  else
    if (9 : Int32) ≤ x0 then
      fRm_isKey_14 σ
    else
      fRm_isKey_15 (1 : Int32) σ
  := (blk_eq sRm_isKey 14 _).trans rfl
set_option maxRecDepth 100000 in
set_option maxHeartbeats 4000000 in
theorem eRm_isKey_14 (σ : Hp) : fRm_isKey_14 σ =
  fRm_isKey_15 (0 : Int32) σ
  := (blk_eq sRm_isKey 14 _).trans rfl
set_option maxRecDepth 100000 in
set_option maxHeartbeats 4000000 in
theorem eRm_isKey_15 (s0 : Int32) (σ : Hp) : fRm_isKey_15 s0 σ =
  rz s0 σ
  := (blk_eq sRm_isKey 14 _).trans rfl

-- MeshRoom.bit(I)J
set_option maxRecDepth 100000 in
set_option maxHeartbeats 4000000 in
theorem eRm_bit (x0 : Int32) (σ : Hp) : rF (mRm_bit, 0, [(0, sI x0)], [], σ) =
  some (some (sJ ((1 : Int64) <<< (Int32.toInt64 x0 &&& 63))), σ)
  := (blk_eq sRm_bit 9 _).trans rfl

-- MeshRoom.isIn(IJ)Z
noncomputable def fRm_isIn_15 (s0 : Int32) (σ : Hp) : Option Rs := rF (mRm_isIn, 15, [], [sI s0], σ)
set_option maxRecDepth 100000 in
set_option maxHeartbeats 4000000 in
theorem eRm_isIn (x0 : Int32) (x1 : Int64) (σ : Hp) : rF (mRm_isIn, 0, [(0, sI x0), (1, sJ x1)], [], σ) =
  if (lg_cmp ((Int64.toUInt64 x1 >>> ((Int32.toInt64 x0).toUInt64 &&& Int64.toUInt64 63)).toInt64 &&& (1 : Int64)) (0 : Int64)) = 0 then
    fRm_isIn_15 (0 : Int32) σ
  else
    fRm_isIn_15 (1 : Int32) σ
  := (blk_eq sRm_isIn 17 _).trans rfl
set_option maxRecDepth 100000 in
set_option maxHeartbeats 4000000 in
theorem eRm_isIn_15 (s0 : Int32) (σ : Hp) : fRm_isIn_15 s0 σ =
  rz s0 σ
  := (blk_eq sRm_isIn 17 _).trans rfl
