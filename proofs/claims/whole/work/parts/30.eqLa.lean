/-! Equations of the stretches (printed by wip/gen/tabs.py). -/
-- MeshRoomLaw.law([I)Z
noncomputable def fLa_law_18 (x0 : Option Nat) (x1 : Option Nat) (x2 : Option Nat) (x3 : Int32) (σ : Hp) : Option Rs := rF (mLa_law, 18, [(0, sA x0), (1, sA x1), (2, sA x2), (3, sI x3)], [], σ)
noncomputable def fLa_law_116 (x0 : Option Nat) (x1 : Option Nat) (x2 : Option Nat) (x3 : Int32) (σ : Hp) : Option Rs := rF (mLa_law, 116, [(0, sA x0), (1, sA x1), (2, sA x2), (3, sI x3)], [], σ)
noncomputable def fLa_law_169 (x0 : Option Nat) (x1 : Option Nat) (x2 : Option Nat) (x3 : Int32) (σ : Hp) : Option Rs := rF (mLa_law, 169, [(0, sA x0), (1, sA x1), (2, sA x2), (3, sI x3)], [], σ)
noncomputable def fLa_law_232 (x0 : Option Nat) (x1 : Option Nat) (x2 : Option Nat) (x3 : Int32) (σ : Hp) : Option Rs := rF (mLa_law, 232, [(0, sA x0), (1, sA x1), (2, sA x2), (3, sI x3)], [], σ)
noncomputable def fLa_law_255 (x0 : Option Nat) (x1 : Option Nat) (x2 : Option Nat) (x3 : Int32) (σ : Hp) : Option Rs := rF (mLa_law, 255, [(0, sA x0), (1, sA x1), (2, sA x2), (3, sI x3)], [], σ)
noncomputable def fLa_law_288 (x0 : Option Nat) (x1 : Option Nat) (x2 : Option Nat) (x3 : Int32) (σ : Hp) : Option Rs := rF (mLa_law, 288, [(0, sA x0), (1, sA x1), (2, sA x2), (3, sI x3)], [], σ)
noncomputable def fLa_law_321 (x0 : Option Nat) (x1 : Option Nat) (x2 : Option Nat) (x3 : Int32) (σ : Hp) : Option Rs := rF (mLa_law, 321, [(0, sA x0), (1, sA x1), (2, sA x2), (3, sI x3)], [], σ)
noncomputable def fLa_law_344 (x0 : Option Nat) (x1 : Option Nat) (x2 : Option Nat) (x3 : Int32) (σ : Hp) : Option Rs := rF (mLa_law, 344, [(0, sA x0), (1, sA x1), (2, sA x2), (3, sI x3)], [], σ)
noncomputable def fLa_law_367 (x0 : Option Nat) (x1 : Option Nat) (x2 : Option Nat) (x3 : Int32) (σ : Hp) : Option Rs := rF (mLa_law, 367, [(0, sA x0), (1, sA x1), (2, sA x2), (3, sI x3)], [], σ)
noncomputable def fLa_law_390 (x0 : Option Nat) (x1 : Option Nat) (x2 : Option Nat) (x3 : Int32) (σ : Hp) : Option Rs := rF (mLa_law, 390, [(0, sA x0), (1, sA x1), (2, sA x2), (3, sI x3)], [], σ)
noncomputable def fLa_law_403 (x0 : Option Nat) (x1 : Option Nat) (x2 : Option Nat) (x3 : Int32) (σ : Hp) : Option Rs := rF (mLa_law, 403, [(0, sA x0), (1, sA x1), (2, sA x2), (3, sI x3)], [], σ)
noncomputable def fLa_law_426 (x0 : Option Nat) (x1 : Option Nat) (x2 : Option Nat) (x3 : Int32) (σ : Hp) : Option Rs := rF (mLa_law, 426, [(0, sA x0), (1, sA x1), (2, sA x2), (3, sI x3)], [], σ)
noncomputable def fLa_law_459 (x0 : Option Nat) (x1 : Option Nat) (x2 : Option Nat) (x3 : Int32) (σ : Hp) : Option Rs := rF (mLa_law, 459, [(0, sA x0), (1, sA x1), (2, sA x2), (3, sI x3)], [], σ)
noncomputable def fLa_law_482 (x0 : Option Nat) (x1 : Option Nat) (x2 : Option Nat) (x3 : Int32) (σ : Hp) : Option Rs := rF (mLa_law, 482, [(0, sA x0), (1, sA x1), (2, sA x2), (3, sI x3)], [], σ)
noncomputable def fLa_law_515 (x0 : Option Nat) (x1 : Option Nat) (x2 : Option Nat) (x3 : Int32) (σ : Hp) : Option Rs := rF (mLa_law, 515, [(0, sA x0), (1, sA x1), (2, sA x2), (3, sI x3)], [], σ)
noncomputable def fLa_law_548 (x0 : Option Nat) (x1 : Option Nat) (x2 : Option Nat) (x3 : Int32) (σ : Hp) : Option Rs := rF (mLa_law, 548, [(0, sA x0), (1, sA x1), (2, sA x2), (3, sI x3)], [], σ)
noncomputable def fLa_law_581 (x0 : Option Nat) (x1 : Option Nat) (x2 : Option Nat) (x3 : Int32) (σ : Hp) : Option Rs := rF (mLa_law, 581, [(0, sA x0), (1, sA x1), (2, sA x2), (3, sI x3)], [], σ)
noncomputable def fLa_law_614 (x0 : Option Nat) (x1 : Option Nat) (x2 : Option Nat) (x3 : Int32) (σ : Hp) : Option Rs := rF (mLa_law, 614, [(0, sA x0), (1, sA x1), (2, sA x2), (3, sI x3)], [], σ)
noncomputable def fLa_law_647 (x0 : Option Nat) (x1 : Option Nat) (x2 : Option Nat) (x3 : Int32) (σ : Hp) : Option Rs := rF (mLa_law, 647, [(0, sA x0), (1, sA x1), (2, sA x2), (3, sI x3)], [], σ)
set_option maxRecDepth 100000 in
set_option maxHeartbeats 4000000 in
theorem eLa_law (x0 : Option Nat) (σ : Hp) : rF (mLa_law, 0, [(0, sA x0)], [], σ) =
  (rcv (mkO σ 0) [sA (some (Prod.fst σ))] 0).bind fun _ =>
  (cV rF nRm_init [sA (some (Prod.fst σ))] (mkO σ 0)).bind fun q4 =>
  (rcv (mkO q4 8) [sA (some (Prod.fst q4))] 8).bind fun _ =>
  (cV rF nMo_init [sA (some (Prod.fst q4))] (mkO q4 8)).bind fun q12 =>
  fLa_law_18 x0 (some (Prod.fst σ)) (some (Prod.fst q4)) (0 : Int32) q12
  := (blk_eq sLa_law 460 _).trans rfl
set_option maxRecDepth 100000 in
set_option maxHeartbeats 4000000 in
theorem eLa_law_18 (x0 : Option Nat) (x1 : Option Nat) (x2 : Option Nat) (x3 : Int32) (σ : Hp) : fLa_law_18 x0 x1 x2 x3 σ =
  (alen σ x0).bind fun v20 =>
  if (v20 - (6 : Int32)) < x3 then
    rz (1 : Int32) σ
  else
    (alI σ x0 x3).bind fun v29 =>
    if (v29 &&& (31 : Int32)) = (0 : Int32) then
      fLa_law_116 x0 x1 x2 x3 σ
    else
     if (v29 &&& (31 : Int32)) = (1 : Int32) then
      fLa_law_169 x0 x1 x2 x3 σ
     else
      if (v29 &&& (31 : Int32)) = (2 : Int32) then
      fLa_law_232 x0 x1 x2 x3 σ
      else
       if (v29 &&& (31 : Int32)) = (3 : Int32) then
      fLa_law_255 x0 x1 x2 x3 σ
       else
        if (v29 &&& (31 : Int32)) = (4 : Int32) then
      fLa_law_288 x0 x1 x2 x3 σ
        else
         if (v29 &&& (31 : Int32)) = (5 : Int32) then
      fLa_law_321 x0 x1 x2 x3 σ
         else
          if (v29 &&& (31 : Int32)) = (6 : Int32) then
      fLa_law_344 x0 x1 x2 x3 σ
          else
           if (v29 &&& (31 : Int32)) = (7 : Int32) then
      fLa_law_367 x0 x1 x2 x3 σ
           else
            if (v29 &&& (31 : Int32)) = (8 : Int32) then
      fLa_law_390 x0 x1 x2 x3 σ
            else
             if (v29 &&& (31 : Int32)) = (9 : Int32) then
      fLa_law_403 x0 x1 x2 x3 σ
             else
              if (v29 &&& (31 : Int32)) = (10 : Int32) then
      fLa_law_426 x0 x1 x2 x3 σ
              else
               if (v29 &&& (31 : Int32)) = (11 : Int32) then
      fLa_law_459 x0 x1 x2 x3 σ
               else
                if (v29 &&& (31 : Int32)) = (12 : Int32) then
      fLa_law_482 x0 x1 x2 x3 σ
                else
                 if (v29 &&& (31 : Int32)) = (13 : Int32) then
      fLa_law_515 x0 x1 x2 x3 σ
                 else
                  if (v29 &&& (31 : Int32)) = (14 : Int32) then
      fLa_law_548 x0 x1 x2 x3 σ
                  else
                   if (v29 &&& (31 : Int32)) = (15 : Int32) then
      fLa_law_581 x0 x1 x2 x3 σ
                   else
                    if (v29 &&& (31 : Int32)) = (16 : Int32) then
      fLa_law_614 x0 x1 x2 x3 σ
                    else
                      fLa_law_647 x0 x1 x2 x3 σ
  := (blk_eq sLa_law 460 _).trans rfl
set_option maxRecDepth 100000 in
set_option maxHeartbeats 4000000 in
theorem eLa_law_116 (x0 : Option Nat) (x1 : Option Nat) (x2 : Option Nat) (x3 : Int32) (σ : Hp) : fLa_law_116 x0 x1 x2 x3 σ =
  (alI σ x0 (x3 + (1 : Int32))).bind fun v121 =>
  (alI σ x0 (x3 + (2 : Int32))).bind fun v126 =>
  (alI σ x0 (x3 + (3 : Int32))).bind fun v131 =>
  (alI σ x0 (x3 + (4 : Int32))).bind fun v136 =>
  (rcv σ [sA x1, sI v121, sI v126, sI v131, sI v136] 0).bind fun _ =>
  (cI rF nRm_act [sA x1, sI v121, sI v126, sI v131, sI v136] σ).bind fun q137 =>
  (alI q137.2 x0 (x3 + (1 : Int32))).bind fun v145 =>
  (alI q137.2 x0 (x3 + (2 : Int32))).bind fun v150 =>
  (alI q137.2 x0 (x3 + (3 : Int32))).bind fun v155 =>
  (alI q137.2 x0 (x3 + (4 : Int32))).bind fun v160 =>
  (rcv q137.2 [sA x2, sI v145, sI v150, sI v155, sI v160] 8).bind fun _ =>
  (cI rF nMo_act [sA x2, sI v145, sI v150, sI v155, sI v160] q137.2).bind fun q161 =>
  if q137.1 = q161.1 then
    fLa_law_647 x0 x1 x2 x3 q161.2
  else
    rz (0 : Int32) q161.2
  := (blk_eq sLa_law 460 _).trans rfl
set_option maxRecDepth 100000 in
set_option maxHeartbeats 4000000 in
theorem eLa_law_169 (x0 : Option Nat) (x1 : Option Nat) (x2 : Option Nat) (x3 : Int32) (σ : Hp) : fLa_law_169 x0 x1 x2 x3 σ =
  (alI σ x0 (x3 + (1 : Int32))).bind fun v174 =>
  (alI σ x0 (x3 + (2 : Int32))).bind fun v179 =>
  (alI σ x0 (x3 + (3 : Int32))).bind fun v184 =>
  (alI σ x0 (x3 + (4 : Int32))).bind fun v189 =>
  (alI σ x0 (x3 + (5 : Int32))).bind fun v194 =>
  (rcv σ [sA x1, sI v174, sI v179, sI v184, sI v189, sI v194] 0).bind fun _ =>
  (cI rF nRm_branch [sA x1, sI v174, sI v179, sI v184, sI v189, sI v194] σ).bind fun q195 =>
  (alI q195.2 x0 (x3 + (1 : Int32))).bind fun v203 =>
  (alI q195.2 x0 (x3 + (2 : Int32))).bind fun v208 =>
  (alI q195.2 x0 (x3 + (3 : Int32))).bind fun v213 =>
  (alI q195.2 x0 (x3 + (4 : Int32))).bind fun v218 =>
  (alI q195.2 x0 (x3 + (5 : Int32))).bind fun v223 =>
  (rcv q195.2 [sA x2, sI v203, sI v208, sI v213, sI v218, sI v223] 8).bind fun _ =>
  (cI rF nMo_branch [sA x2, sI v203, sI v208, sI v213, sI v218, sI v223] q195.2).bind fun q224 =>
  if q195.1 = q224.1 then
    fLa_law_647 x0 x1 x2 x3 q224.2
  else
    rz (0 : Int32) q224.2
  := (blk_eq sLa_law 460 _).trans rfl
set_option maxRecDepth 100000 in
set_option maxHeartbeats 4000000 in
theorem eLa_law_232 (x0 : Option Nat) (x1 : Option Nat) (x2 : Option Nat) (x3 : Int32) (σ : Hp) : fLa_law_232 x0 x1 x2 x3 σ =
  (alI σ x0 (x3 + (1 : Int32))).bind fun v237 =>
  (rcv σ [sA x1, sI v237] 0).bind fun _ =>
  (cI rF nRm_tick [sA x1, sI v237] σ).bind fun q238 =>
  (alI q238.2 x0 (x3 + (1 : Int32))).bind fun v246 =>
  (rcv q238.2 [sA x2, sI v246] 8).bind fun _ =>
  (cI rF nMo_tick [sA x2, sI v246] q238.2).bind fun q247 =>
  if q238.1 = q247.1 then
    fLa_law_647 x0 x1 x2 x3 q247.2
  else
    rz (0 : Int32) q247.2
  := (blk_eq sLa_law 460 _).trans rfl
set_option maxRecDepth 100000 in
set_option maxHeartbeats 4000000 in
theorem eLa_law_255 (x0 : Option Nat) (x1 : Option Nat) (x2 : Option Nat) (x3 : Int32) (σ : Hp) : fLa_law_255 x0 x1 x2 x3 σ =
  (alI σ x0 (x3 + (1 : Int32))).bind fun v260 =>
  (alI σ x0 (x3 + (2 : Int32))).bind fun v265 =>
  (rcv σ [sA x1, sI v260, sI v265] 0).bind fun _ =>
  (cI rF nRm_offset [sA x1, sI v260, sI v265] σ).bind fun q266 =>
  (alI q266.2 x0 (x3 + (1 : Int32))).bind fun v274 =>
  (alI q266.2 x0 (x3 + (2 : Int32))).bind fun v279 =>
  (rcv q266.2 [sA x2, sI v274, sI v279] 8).bind fun _ =>
  (cI rF nMo_offset [sA x2, sI v274, sI v279] q266.2).bind fun q280 =>
  if q266.1 = q280.1 then
    fLa_law_647 x0 x1 x2 x3 q280.2
  else
    rz (0 : Int32) q280.2
  := (blk_eq sLa_law 460 _).trans rfl
set_option maxRecDepth 100000 in
set_option maxHeartbeats 4000000 in
theorem eLa_law_288 (x0 : Option Nat) (x1 : Option Nat) (x2 : Option Nat) (x3 : Int32) (σ : Hp) : fLa_law_288 x0 x1 x2 x3 σ =
  (alI σ x0 (x3 + (1 : Int32))).bind fun v293 =>
  (alI σ x0 (x3 + (2 : Int32))).bind fun v298 =>
  (rcv σ [sA x1, sI v293, sI v298] 0).bind fun _ =>
  (cI rF nRm_offer [sA x1, sI v293, sI v298] σ).bind fun q299 =>
  (alI q299.2 x0 (x3 + (1 : Int32))).bind fun v307 =>
  (alI q299.2 x0 (x3 + (2 : Int32))).bind fun v312 =>
  (rcv q299.2 [sA x2, sI v307, sI v312] 8).bind fun _ =>
  (cI rF nMo_offer [sA x2, sI v307, sI v312] q299.2).bind fun q313 =>
  if q299.1 = q313.1 then
    fLa_law_647 x0 x1 x2 x3 q313.2
  else
    rz (0 : Int32) q313.2
  := (blk_eq sLa_law 460 _).trans rfl
set_option maxRecDepth 100000 in
set_option maxHeartbeats 4000000 in
theorem eLa_law_321 (x0 : Option Nat) (x1 : Option Nat) (x2 : Option Nat) (x3 : Int32) (σ : Hp) : fLa_law_321 x0 x1 x2 x3 σ =
  (alI σ x0 (x3 + (1 : Int32))).bind fun v326 =>
  (rcv σ [sA x1, sI v326] 0).bind fun _ =>
  (cI rF nRm_deliver [sA x1, sI v326] σ).bind fun q327 =>
  (alI q327.2 x0 (x3 + (1 : Int32))).bind fun v335 =>
  (rcv q327.2 [sA x2, sI v335] 8).bind fun _ =>
  (cI rF nMo_deliver [sA x2, sI v335] q327.2).bind fun q336 =>
  if q327.1 = q336.1 then
    fLa_law_647 x0 x1 x2 x3 q336.2
  else
    rz (0 : Int32) q336.2
  := (blk_eq sLa_law 460 _).trans rfl
set_option maxRecDepth 100000 in
set_option maxHeartbeats 4000000 in
theorem eLa_law_344 (x0 : Option Nat) (x1 : Option Nat) (x2 : Option Nat) (x3 : Int32) (σ : Hp) : fLa_law_344 x0 x1 x2 x3 σ =
  (alI σ x0 (x3 + (1 : Int32))).bind fun v349 =>
  (rcv σ [sA x1, sI v349] 0).bind fun _ =>
  (cI rF nRm_lose [sA x1, sI v349] σ).bind fun q350 =>
  (alI q350.2 x0 (x3 + (1 : Int32))).bind fun v358 =>
  (rcv q350.2 [sA x2, sI v358] 8).bind fun _ =>
  (cI rF nMo_lose [sA x2, sI v358] q350.2).bind fun q359 =>
  if q350.1 = q359.1 then
    fLa_law_647 x0 x1 x2 x3 q359.2
  else
    rz (0 : Int32) q359.2
  := (blk_eq sLa_law 460 _).trans rfl
set_option maxRecDepth 100000 in
set_option maxHeartbeats 4000000 in
theorem eLa_law_367 (x0 : Option Nat) (x1 : Option Nat) (x2 : Option Nat) (x3 : Int32) (σ : Hp) : fLa_law_367 x0 x1 x2 x3 σ =
  (alI σ x0 (x3 + (1 : Int32))).bind fun v372 =>
  (rcv σ [sA x1, sI v372] 0).bind fun _ =>
  (cI rF nRm_spoil [sA x1, sI v372] σ).bind fun q373 =>
  (alI q373.2 x0 (x3 + (1 : Int32))).bind fun v381 =>
  (rcv q373.2 [sA x2, sI v381] 8).bind fun _ =>
  (cI rF nMo_spoil [sA x2, sI v381] q373.2).bind fun q382 =>
  if q373.1 = q382.1 then
    fLa_law_647 x0 x1 x2 x3 q382.2
  else
    rz (0 : Int32) q382.2
  := (blk_eq sLa_law 460 _).trans rfl
set_option maxRecDepth 100000 in
set_option maxHeartbeats 4000000 in
theorem eLa_law_390 (x0 : Option Nat) (x1 : Option Nat) (x2 : Option Nat) (x3 : Int32) (σ : Hp) : fLa_law_390 x0 x1 x2 x3 σ =
  (rcv σ [sA x1] 0).bind fun _ =>
  (cI rF nRm_flying [sA x1] σ).bind fun q391 =>
  (rcv q391.2 [sA x2] 8).bind fun _ =>
  (cI rF nMo_flying [sA x2] q391.2).bind fun q395 =>
  if q391.1 = q395.1 then
    fLa_law_647 x0 x1 x2 x3 q395.2
  else
    rz (0 : Int32) q395.2
  := (blk_eq sLa_law 460 _).trans rfl
set_option maxRecDepth 100000 in
set_option maxHeartbeats 4000000 in
theorem eLa_law_403 (x0 : Option Nat) (x1 : Option Nat) (x2 : Option Nat) (x3 : Int32) (σ : Hp) : fLa_law_403 x0 x1 x2 x3 σ =
  (alI σ x0 (x3 + (1 : Int32))).bind fun v408 =>
  (rcv σ [sA x1, sI v408] 0).bind fun _ =>
  (cI rF nRm_message [sA x1, sI v408] σ).bind fun q409 =>
  (alI q409.2 x0 (x3 + (1 : Int32))).bind fun v417 =>
  (rcv q409.2 [sA x2, sI v417] 8).bind fun _ =>
  (cI rF nMo_message [sA x2, sI v417] q409.2).bind fun q418 =>
  if q409.1 = q418.1 then
    fLa_law_647 x0 x1 x2 x3 q418.2
  else
    rz (0 : Int32) q418.2
  := (blk_eq sLa_law 460 _).trans rfl
set_option maxRecDepth 100000 in
set_option maxHeartbeats 4000000 in
theorem eLa_law_426 (x0 : Option Nat) (x1 : Option Nat) (x2 : Option Nat) (x3 : Int32) (σ : Hp) : fLa_law_426 x0 x1 x2 x3 σ =
  (alI σ x0 (x3 + (1 : Int32))).bind fun v431 =>
  (alI σ x0 (x3 + (2 : Int32))).bind fun v436 =>
  (rcv σ [sA x1, sI v431, sI v436] 0).bind fun _ =>
  (cI rF nRm_status [sA x1, sI v431, sI v436] σ).bind fun q437 =>
  (alI q437.2 x0 (x3 + (1 : Int32))).bind fun v445 =>
  (alI q437.2 x0 (x3 + (2 : Int32))).bind fun v450 =>
  (rcv q437.2 [sA x2, sI v445, sI v450] 8).bind fun _ =>
  (cI rF nMo_status [sA x2, sI v445, sI v450] q437.2).bind fun q451 =>
  if q437.1 = q451.1 then
    fLa_law_647 x0 x1 x2 x3 q451.2
  else
    rz (0 : Int32) q451.2
  := (blk_eq sLa_law 460 _).trans rfl
set_option maxRecDepth 100000 in
set_option maxHeartbeats 4000000 in
theorem eLa_law_459 (x0 : Option Nat) (x1 : Option Nat) (x2 : Option Nat) (x3 : Int32) (σ : Hp) : fLa_law_459 x0 x1 x2 x3 σ =
  (alI σ x0 (x3 + (1 : Int32))).bind fun v464 =>
  (rcv σ [sA x1, sI v464] 0).bind fun _ =>
  (cI rF nRm_ends [sA x1, sI v464] σ).bind fun q465 =>
  (alI q465.2 x0 (x3 + (1 : Int32))).bind fun v473 =>
  (rcv q465.2 [sA x2, sI v473] 8).bind fun _ =>
  (cI rF nMo_ends [sA x2, sI v473] q465.2).bind fun q474 =>
  if q465.1 = q474.1 then
    fLa_law_647 x0 x1 x2 x3 q474.2
  else
    rz (0 : Int32) q474.2
  := (blk_eq sLa_law 460 _).trans rfl
set_option maxRecDepth 100000 in
set_option maxHeartbeats 4000000 in
theorem eLa_law_482 (x0 : Option Nat) (x1 : Option Nat) (x2 : Option Nat) (x3 : Int32) (σ : Hp) : fLa_law_482 x0 x1 x2 x3 σ =
  (alI σ x0 (x3 + (1 : Int32))).bind fun v487 =>
  (alI σ x0 (x3 + (2 : Int32))).bind fun v492 =>
  (rcv σ [sA x1, sI v487, sI v492] 0).bind fun _ =>
  (cI rF nRm_current [sA x1, sI v487, sI v492] σ).bind fun q493 =>
  (alI q493.2 x0 (x3 + (1 : Int32))).bind fun v501 =>
  (alI q493.2 x0 (x3 + (2 : Int32))).bind fun v506 =>
  (rcv q493.2 [sA x2, sI v501, sI v506] 8).bind fun _ =>
  (cI rF nMo_current [sA x2, sI v501, sI v506] q493.2).bind fun q507 =>
  if q493.1 = q507.1 then
    fLa_law_647 x0 x1 x2 x3 q507.2
  else
    rz (0 : Int32) q507.2
  := (blk_eq sLa_law 460 _).trans rfl
set_option maxRecDepth 100000 in
set_option maxHeartbeats 4000000 in
theorem eLa_law_515 (x0 : Option Nat) (x1 : Option Nat) (x2 : Option Nat) (x3 : Int32) (σ : Hp) : fLa_law_515 x0 x1 x2 x3 σ =
  (alI σ x0 (x3 + (1 : Int32))).bind fun v520 =>
  (alI σ x0 (x3 + (2 : Int32))).bind fun v525 =>
  (rcv σ [sA x1, sI v520, sI v525] 0).bind fun _ =>
  (cI rF nRm_member [sA x1, sI v520, sI v525] σ).bind fun q526 =>
  (alI q526.2 x0 (x3 + (1 : Int32))).bind fun v534 =>
  (alI q526.2 x0 (x3 + (2 : Int32))).bind fun v539 =>
  (rcv q526.2 [sA x2, sI v534, sI v539] 8).bind fun _ =>
  (cI rF nMo_member [sA x2, sI v534, sI v539] q526.2).bind fun q540 =>
  if q526.1 = q540.1 then
    fLa_law_647 x0 x1 x2 x3 q540.2
  else
    rz (0 : Int32) q540.2
  := (blk_eq sLa_law 460 _).trans rfl
set_option maxRecDepth 100000 in
set_option maxHeartbeats 4000000 in
theorem eLa_law_548 (x0 : Option Nat) (x1 : Option Nat) (x2 : Option Nat) (x3 : Int32) (σ : Hp) : fLa_law_548 x0 x1 x2 x3 σ =
  (alI σ x0 (x3 + (1 : Int32))).bind fun v553 =>
  (alI σ x0 (x3 + (2 : Int32))).bind fun v558 =>
  (rcv σ [sA x1, sI v553, sI v558] 0).bind fun _ =>
  (cI rF nRm_after [sA x1, sI v553, sI v558] σ).bind fun q559 =>
  (alI q559.2 x0 (x3 + (1 : Int32))).bind fun v567 =>
  (alI q559.2 x0 (x3 + (2 : Int32))).bind fun v572 =>
  (rcv q559.2 [sA x2, sI v567, sI v572] 8).bind fun _ =>
  (cI rF nMo_after [sA x2, sI v567, sI v572] q559.2).bind fun q573 =>
  if q559.1 = q573.1 then
    fLa_law_647 x0 x1 x2 x3 q573.2
  else
    rz (0 : Int32) q573.2
  := (blk_eq sLa_law 460 _).trans rfl
set_option maxRecDepth 100000 in
set_option maxHeartbeats 4000000 in
theorem eLa_law_581 (x0 : Option Nat) (x1 : Option Nat) (x2 : Option Nat) (x3 : Int32) (σ : Hp) : fLa_law_581 x0 x1 x2 x3 σ =
  (alI σ x0 (x3 + (1 : Int32))).bind fun v586 =>
  (alI σ x0 (x3 + (2 : Int32))).bind fun v591 =>
  (rcv σ [sA x1, sI v586, sI v591] 0).bind fun _ =>
  (cI rF nRm_event [sA x1, sI v586, sI v591] σ).bind fun q592 =>
  (alI q592.2 x0 (x3 + (1 : Int32))).bind fun v600 =>
  (alI q592.2 x0 (x3 + (2 : Int32))).bind fun v605 =>
  (rcv q592.2 [sA x2, sI v600, sI v605] 8).bind fun _ =>
  (cI rF nMo_event [sA x2, sI v600, sI v605] q592.2).bind fun q606 =>
  if q592.1 = q606.1 then
    fLa_law_647 x0 x1 x2 x3 q606.2
  else
    rz (0 : Int32) q606.2
  := (blk_eq sLa_law 460 _).trans rfl
set_option maxRecDepth 100000 in
set_option maxHeartbeats 4000000 in
theorem eLa_law_614 (x0 : Option Nat) (x1 : Option Nat) (x2 : Option Nat) (x3 : Int32) (σ : Hp) : fLa_law_614 x0 x1 x2 x3 σ =
  (alI σ x0 (x3 + (1 : Int32))).bind fun v619 =>
  (alI σ x0 (x3 + (2 : Int32))).bind fun v624 =>
  (rcv σ [sA x1, sI v619, sI v624] 0).bind fun _ =>
  (cI rF nRm_linked [sA x1, sI v619, sI v624] σ).bind fun q625 =>
  (alI q625.2 x0 (x3 + (1 : Int32))).bind fun v633 =>
  (alI q625.2 x0 (x3 + (2 : Int32))).bind fun v638 =>
  (rcv q625.2 [sA x2, sI v633, sI v638] 8).bind fun _ =>
  (cI rF nMo_linked [sA x2, sI v633, sI v638] q625.2).bind fun q639 =>
  if q625.1 = q639.1 then
    fLa_law_647 x0 x1 x2 x3 q639.2
  else
    rz (0 : Int32) q639.2
  := (blk_eq sLa_law 460 _).trans rfl
set_option maxRecDepth 100000 in
set_option maxHeartbeats 4000000 in
theorem eLa_law_647 (x0 : Option Nat) (x1 : Option Nat) (x2 : Option Nat) (x3 : Int32) (σ : Hp) : fLa_law_647 x0 x1 x2 x3 σ =
  fLa_law_18 x0 x1 x2 (x3 + (6 : Int32)) σ
  := (blk_eq sLa_law 460 _).trans rfl
