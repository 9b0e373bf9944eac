section
set_option maxRecDepth 100000 in
def F_X12_init (x0 : Nat) (σ : AH) : Option AH := (if kd σ x0 = (12, NO 12) then (if x0 < nx σ then (lt (aw σ 100 269832) fun τ1 => (if alB m_X12_init x0 = true then (if shOX τ1 x0 2 = true then (lt (sR τ1 x0 2 (some (nx σ))) fun τ10 => (lt (aw τ10 100 809496) fun τ15 => (if alB m_X12_init x0 = true then (if shOX τ15 x0 3 = true then (lt (sR τ15 x0 3 (some (nx τ10))) fun τ24 => (lt (aw τ24 101 3) fun τ29 => (if alB m_X12_init x0 = true then (if shOX τ29 x0 4 = true then (lt (sR τ29 x0 4 (some (nx τ24))) fun τ38 => (lt (aw τ38 100 400) fun τ43 => (if alB m_X12_init x0 = true then (if shOX τ43 x0 5 = true then (lt (sR τ43 x0 5 (some (nx τ38))) fun τ52 => (if alB m_X12_init x0 = true then (lt (aw (sI τ52 x0 11 (-1 : Int32)) 100 144) fun τ58 => (if alB m_X12_init x0 = true then (if shOX τ58 x0 14 = true then (lt (sR τ58 x0 14 (some (nx (sI τ52 x0 11 (-1 : Int32))))) fun τ67 => (lt (aw τ67 100 400) fun τ72 => (if alB m_X12_init x0 = true then (if shOX τ72 x0 16 = true then (lt (sR τ72 x0 16 (some (nx τ67))) fun τ81 => (lt (aw τ81 100 400) fun τ86 => (if alB m_X12_init x0 = true then (if shOX τ86 x0 17 = true then (lt (sR τ86 x0 17 (some (nx τ81))) fun τ95 => (lt (aw τ95 100 400) fun τ100 => (if alB m_X12_init x0 = true then (if shOX τ100 x0 19 = true then (lt (sR τ100 x0 19 (some (nx τ95))) fun τ109 => (lt (aw τ109 100 400) fun τ114 => (if alB m_X12_init x0 = true then (if shOX τ114 x0 20 = true then (lt (sR τ114 x0 20 (some (nx τ109))) fun τ123 => (if alB m_X12_init x0 = true then (lt (aw (sI τ123 x0 24 (-1 : Int32)) 101 24) fun τ129 => (if alB m_X12_init x0 = true then (if shOX τ129 x0 25 = true then (lt (sR τ129 x0 25 (some (nx (sI τ123 x0 24 (-1 : Int32))))) fun τ138 => (lt (aw τ138 101 384) fun τ143 => (if alB m_X12_init x0 = true then (if shOX τ143 x0 26 = true then (lt (sR τ143 x0 26 (some (nx τ138))) fun τ152 => (lt (aw τ152 100 8) fun τ157 => (if alB m_X12_init x0 = true then (if shOX τ157 x0 27 = true then (lt (sR τ157 x0 27 (some (nx τ152))) fun τ166 => (lt (aw τ166 102 400) fun τ171 => (if alB m_X12_init x0 = true then (if shOX τ171 x0 28 = true then (lt (sR τ171 x0 28 (some (nx τ166))) fun τ180 => (lt (aw τ180 100 84240) fun τ185 => (if alB m_X12_init x0 = true then (if shOX τ185 x0 33 = true then (lt (sR τ185 x0 33 (some (nx τ180))) fun τ194 => (lt (aw τ194 100 260) fun τ199 => (if alB m_X12_init x0 = true then (if shOX τ199 x0 34 = true then (lt (sR τ199 x0 34 (some (nx τ194))) fun τ208 => (lt (aw τ208 100 30) fun τ213 => (if alB m_X12_init x0 = true then (if shOX τ213 x0 35 = true then (lt (sR τ213 x0 35 (some (nx τ208))) fun τ222 => (lt (aw τ222 101 30) fun τ227 => (if alB m_X12_init x0 = true then (if shOX τ227 x0 36 = true then (lt (sR τ227 x0 36 (some (nx τ222))) fun τ236 => (lt (aw τ236 100 5) fun τ241 => (if alB m_X12_init x0 = true then (if shOX τ241 x0 37 = true then (lt (sR τ241 x0 37 (some (nx τ236))) fun τ250 => (lt (aw τ250 100 6) fun τ255 => (if alB m_X12_init x0 = true then (if shOX τ255 x0 38 = true then (lt (sR τ255 x0 38 (some (nx τ250))) fun τ264 => (lt (aw τ264 100 30) fun τ269 => (if alB m_X12_init x0 = true then (if shOX τ269 x0 39 = true then (lt (sR τ269 x0 39 (some (nx τ264))) fun τ278 => (lt (aw τ278 101 30) fun τ283 => (if alB m_X12_init x0 = true then (if shOX τ283 x0 40 = true then (lt (sR τ283 x0 40 (some (nx τ278))) fun τ292 => (lt (aw τ292 100 30) fun τ297 => (if alB m_X12_init x0 = true then (if shOX τ297 x0 41 = true then (lt (sR τ297 x0 41 (some (nx τ292))) fun τ306 => (lt (aw τ306 101 30) fun τ311 => (if alB m_X12_init x0 = true then (if shOX τ311 x0 42 = true then (lt (sR τ311 x0 42 (some (nx τ306))) fun τ320 => (lt (aw τ320 100 90) fun τ325 => (if alB m_X12_init x0 = true then (if shOX τ325 x0 43 = true then (lt (sR τ325 x0 43 (some (nx τ320))) fun τ334 => (lt (aw τ334 100 90) fun τ339 => (if alB m_X12_init x0 = true then (if shOX τ339 x0 44 = true then (lt (sR τ339 x0 44 (some (nx τ334))) fun τ348 => (lt (aw τ348 100 30) fun τ353 => (if alB m_X12_init x0 = true then (if shOX τ353 x0 46 = true then (lt (sR τ353 x0 46 (some (nx τ348))) fun τ362 => (lt (aw τ362 100 30) fun τ367 => (if alB m_X12_init x0 = true then (if shOX τ367 x0 47 = true then (lt (sR τ367 x0 47 (some (nx τ362))) fun τ376 => (lt (aw τ376 100 6) fun τ381 => (if alB m_X12_init x0 = true then (if shOX τ381 x0 49 = true then (lt (sR τ381 x0 49 (some (nx τ376))) fun τ390 => (lt (aw τ390 100 6) fun τ395 => (if alB m_X12_init x0 = true then (if shOX τ395 x0 52 = true then (lt (sR τ395 x0 52 (some (nx τ390))) fun τ404 => (lt (aw τ404 100 5) fun τ409 => (if alB m_X12_init x0 = true then (if shOX τ409 x0 54 = true then (lt (sR τ409 x0 54 (some (nx τ404))) fun τ418 => (lt (aw τ418 100 30) fun τ423 => (if alB m_X12_init x0 = true then (if shOX τ423 x0 55 = true then (lt (sR τ423 x0 55 (some (nx τ418))) fun τ432 => (lt (aw τ432 101 30) fun τ437 => (if alB m_X12_init x0 = true then (if shOX τ437 x0 56 = true then (lt (sR τ437 x0 56 (some (nx τ432))) fun τ446 => (lt (aw τ446 100 30) fun τ451 => (if alB m_X12_init x0 = true then (if shOX τ451 x0 57 = true then (lt (sR τ451 x0 57 (some (nx τ446))) fun τ460 => (lt (aw τ460 100 90) fun τ465 => (if alB m_X12_init x0 = true then (if shOX τ465 x0 58 = true then (lt (sR τ465 x0 58 (some (nx τ460))) fun τ474 => (lt (aw τ474 100 90) fun τ479 => (if alB m_X12_init x0 = true then (if shOX τ479 x0 59 = true then (lt (sR τ479 x0 59 (some (nx τ474))) fun τ488 => (lt (aw τ488 100 60) fun τ493 => (if alB m_X12_init x0 = true then (if shOX τ493 x0 62 = true then (lt (sR τ493 x0 62 (some (nx τ488))) fun τ502 => (lt (aw τ502 102 60) fun τ507 => (if alB m_X12_init x0 = true then (if shOX τ507 x0 63 = true then (lt (sR τ507 x0 63 (some (nx τ502))) fun τ516 => (lt (aw τ516 100 60) fun τ521 => (if alB m_X12_init x0 = true then (if shOX τ521 x0 64 = true then (lt (sR τ521 x0 64 (some (nx τ516))) fun τ530 => (lt (aw τ530 100 60) fun τ535 => (if alB m_X12_init x0 = true then (if shOX τ535 x0 66 = true then (lt (sR τ535 x0 66 (some (nx τ530))) fun τ544 => (lt (aw τ544 100 30) fun τ549 => (if alB m_X12_init x0 = true then (if shOX τ549 x0 67 = true then (lt (sR τ549 x0 67 (some (nx τ544))) fun τ558 => (lt (aw τ558 100 30) fun τ563 => (if alB m_X12_init x0 = true then (if shOX τ563 x0 68 = true then (lt (sR τ563 x0 68 (some (nx τ558))) fun τ572 => (some τ572)) else none) else none))) else none) else none))) else none) else none))) else none) else none))) else none) else none))) else none) else none))) else none) else none))) else none) else none))) else none) else none))) else none) else none))) else none) else none))) else none) else none))) else none) else none))) else none) else none))) else none) else none))) else none) else none))) else none) else none))) else none) else none))) else none) else none))) else none) else none))) else none) else none))) else none) else none))) else none) else none))) else none) else none))) else none) else none))) else none) else none))) else none) else none))) else none) else none))) else none) else none))) else none) else none))) else none) else none))) else none) else none)) else none)) else none) else none))) else none) else none))) else none) else none))) else none) else none))) else none) else none)) else none)) else none) else none))) else none) else none))) else none) else none))) else none) else none)) else none) else none)
set_option maxRecDepth 100000 in
theorem t_X12_init_0 {X : Sx} {l : Launch} {D : Nat} {x0 : Nat} {σ : AH} {σ' : AH} (hD : 1 ≤ D) (h : F_X12_init x0 σ = some σ') : W_X12_init_0 X l D x0 σ none σ' := by
  unfold F_X12_init at h
  unfold W_X12_init_0
  obtain ⟨g1, h⟩ := of_gd h
  refine ⟨g1, ?_⟩
  obtain ⟨g2, h⟩ := of_gd h
  refine ⟨g2, ?_⟩
  refine ⟨Nat.le_trans (by decide) hD, ?_⟩
  intro τ1 e3
  replace h := of_lt h e3
  obtain ⟨g4, h⟩ := of_gd h
  refine ⟨(alB_mp g4), ?_⟩
  obtain ⟨g5, h⟩ := of_gd h
  refine ⟨(fun q => shOX_mp g5 q), ?_⟩
  intro τ10 e6
  replace h := of_lt h e6
  intro τ15 e7
  replace h := of_lt h e7
  obtain ⟨g8, h⟩ := of_gd h
  refine ⟨(alB_mp g8), ?_⟩
  obtain ⟨g9, h⟩ := of_gd h
  refine ⟨(fun q => shOX_mp g9 q), ?_⟩
  intro τ24 e10
  replace h := of_lt h e10
  intro τ29 e11
  replace h := of_lt h e11
  obtain ⟨g12, h⟩ := of_gd h
  refine ⟨(alB_mp g12), ?_⟩
  obtain ⟨g13, h⟩ := of_gd h
  refine ⟨(fun q => shOX_mp g13 q), ?_⟩
  intro τ38 e14
  replace h := of_lt h e14
  intro τ43 e15
  replace h := of_lt h e15
  obtain ⟨g16, h⟩ := of_gd h
  refine ⟨(alB_mp g16), ?_⟩
  obtain ⟨g17, h⟩ := of_gd h
  refine ⟨(fun q => shOX_mp g17 q), ?_⟩
  intro τ52 e18
  replace h := of_lt h e18
  obtain ⟨g19, h⟩ := of_gd h
  refine ⟨(alB_mp g19), ?_⟩
  intro τ58 e20
  replace h := of_lt h e20
  obtain ⟨g21, h⟩ := of_gd h
  refine ⟨(alB_mp g21), ?_⟩
  obtain ⟨g22, h⟩ := of_gd h
  refine ⟨(fun q => shOX_mp g22 q), ?_⟩
  intro τ67 e23
  replace h := of_lt h e23
  intro τ72 e24
  replace h := of_lt h e24
  obtain ⟨g25, h⟩ := of_gd h
  refine ⟨(alB_mp g25), ?_⟩
  obtain ⟨g26, h⟩ := of_gd h
  refine ⟨(fun q => shOX_mp g26 q), ?_⟩
  intro τ81 e27
  replace h := of_lt h e27
  intro τ86 e28
  replace h := of_lt h e28
  obtain ⟨g29, h⟩ := of_gd h
  refine ⟨(alB_mp g29), ?_⟩
  obtain ⟨g30, h⟩ := of_gd h
  refine ⟨(fun q => shOX_mp g30 q), ?_⟩
  intro τ95 e31
  replace h := of_lt h e31
  intro τ100 e32
  replace h := of_lt h e32
  obtain ⟨g33, h⟩ := of_gd h
  refine ⟨(alB_mp g33), ?_⟩
  obtain ⟨g34, h⟩ := of_gd h
  refine ⟨(fun q => shOX_mp g34 q), ?_⟩
  intro τ109 e35
  replace h := of_lt h e35
  intro τ114 e36
  replace h := of_lt h e36
  obtain ⟨g37, h⟩ := of_gd h
  refine ⟨(alB_mp g37), ?_⟩
  obtain ⟨g38, h⟩ := of_gd h
  refine ⟨(fun q => shOX_mp g38 q), ?_⟩
  intro τ123 e39
  replace h := of_lt h e39
  obtain ⟨g40, h⟩ := of_gd h
  refine ⟨(alB_mp g40), ?_⟩
  intro τ129 e41
  replace h := of_lt h e41
  obtain ⟨g42, h⟩ := of_gd h
  refine ⟨(alB_mp g42), ?_⟩
  obtain ⟨g43, h⟩ := of_gd h
  refine ⟨(fun q => shOX_mp g43 q), ?_⟩
  intro τ138 e44
  replace h := of_lt h e44
  intro τ143 e45
  replace h := of_lt h e45
  obtain ⟨g46, h⟩ := of_gd h
  refine ⟨(alB_mp g46), ?_⟩
  obtain ⟨g47, h⟩ := of_gd h
  refine ⟨(fun q => shOX_mp g47 q), ?_⟩
  intro τ152 e48
  replace h := of_lt h e48
  intro τ157 e49
  replace h := of_lt h e49
  obtain ⟨g50, h⟩ := of_gd h
  refine ⟨(alB_mp g50), ?_⟩
  obtain ⟨g51, h⟩ := of_gd h
  refine ⟨(fun q => shOX_mp g51 q), ?_⟩
  intro τ166 e52
  replace h := of_lt h e52
  intro τ171 e53
  replace h := of_lt h e53
  obtain ⟨g54, h⟩ := of_gd h
  refine ⟨(alB_mp g54), ?_⟩
  obtain ⟨g55, h⟩ := of_gd h
  refine ⟨(fun q => shOX_mp g55 q), ?_⟩
  intro τ180 e56
  replace h := of_lt h e56
  intro τ185 e57
  replace h := of_lt h e57
  obtain ⟨g58, h⟩ := of_gd h
  refine ⟨(alB_mp g58), ?_⟩
  obtain ⟨g59, h⟩ := of_gd h
  refine ⟨(fun q => shOX_mp g59 q), ?_⟩
  intro τ194 e60
  replace h := of_lt h e60
  intro τ199 e61
  replace h := of_lt h e61
  obtain ⟨g62, h⟩ := of_gd h
  refine ⟨(alB_mp g62), ?_⟩
  obtain ⟨g63, h⟩ := of_gd h
  refine ⟨(fun q => shOX_mp g63 q), ?_⟩
  intro τ208 e64
  replace h := of_lt h e64
  intro τ213 e65
  replace h := of_lt h e65
  obtain ⟨g66, h⟩ := of_gd h
  refine ⟨(alB_mp g66), ?_⟩
  obtain ⟨g67, h⟩ := of_gd h
  refine ⟨(fun q => shOX_mp g67 q), ?_⟩
  intro τ222 e68
  replace h := of_lt h e68
  intro τ227 e69
  replace h := of_lt h e69
  obtain ⟨g70, h⟩ := of_gd h
  refine ⟨(alB_mp g70), ?_⟩
  obtain ⟨g71, h⟩ := of_gd h
  refine ⟨(fun q => shOX_mp g71 q), ?_⟩
  intro τ236 e72
  replace h := of_lt h e72
  intro τ241 e73
  replace h := of_lt h e73
  obtain ⟨g74, h⟩ := of_gd h
  refine ⟨(alB_mp g74), ?_⟩
  obtain ⟨g75, h⟩ := of_gd h
  refine ⟨(fun q => shOX_mp g75 q), ?_⟩
  intro τ250 e76
  replace h := of_lt h e76
  intro τ255 e77
  replace h := of_lt h e77
  obtain ⟨g78, h⟩ := of_gd h
  refine ⟨(alB_mp g78), ?_⟩
  obtain ⟨g79, h⟩ := of_gd h
  refine ⟨(fun q => shOX_mp g79 q), ?_⟩
  intro τ264 e80
  replace h := of_lt h e80
  intro τ269 e81
  replace h := of_lt h e81
  obtain ⟨g82, h⟩ := of_gd h
  refine ⟨(alB_mp g82), ?_⟩
  obtain ⟨g83, h⟩ := of_gd h
  refine ⟨(fun q => shOX_mp g83 q), ?_⟩
  intro τ278 e84
  replace h := of_lt h e84
  intro τ283 e85
  replace h := of_lt h e85
  obtain ⟨g86, h⟩ := of_gd h
  refine ⟨(alB_mp g86), ?_⟩
  obtain ⟨g87, h⟩ := of_gd h
  refine ⟨(fun q => shOX_mp g87 q), ?_⟩
  intro τ292 e88
  replace h := of_lt h e88
  intro τ297 e89
  replace h := of_lt h e89
  obtain ⟨g90, h⟩ := of_gd h
  refine ⟨(alB_mp g90), ?_⟩
  obtain ⟨g91, h⟩ := of_gd h
  refine ⟨(fun q => shOX_mp g91 q), ?_⟩
  intro τ306 e92
  replace h := of_lt h e92
  intro τ311 e93
  replace h := of_lt h e93
  obtain ⟨g94, h⟩ := of_gd h
  refine ⟨(alB_mp g94), ?_⟩
  obtain ⟨g95, h⟩ := of_gd h
  refine ⟨(fun q => shOX_mp g95 q), ?_⟩
  intro τ320 e96
  replace h := of_lt h e96
  intro τ325 e97
  replace h := of_lt h e97
  obtain ⟨g98, h⟩ := of_gd h
  refine ⟨(alB_mp g98), ?_⟩
  obtain ⟨g99, h⟩ := of_gd h
  refine ⟨(fun q => shOX_mp g99 q), ?_⟩
  intro τ334 e100
  replace h := of_lt h e100
  intro τ339 e101
  replace h := of_lt h e101
  obtain ⟨g102, h⟩ := of_gd h
  refine ⟨(alB_mp g102), ?_⟩
  obtain ⟨g103, h⟩ := of_gd h
  refine ⟨(fun q => shOX_mp g103 q), ?_⟩
  intro τ348 e104
  replace h := of_lt h e104
  intro τ353 e105
  replace h := of_lt h e105
  obtain ⟨g106, h⟩ := of_gd h
  refine ⟨(alB_mp g106), ?_⟩
  obtain ⟨g107, h⟩ := of_gd h
  refine ⟨(fun q => shOX_mp g107 q), ?_⟩
  intro τ362 e108
  replace h := of_lt h e108
  intro τ367 e109
  replace h := of_lt h e109
  obtain ⟨g110, h⟩ := of_gd h
  refine ⟨(alB_mp g110), ?_⟩
  obtain ⟨g111, h⟩ := of_gd h
  refine ⟨(fun q => shOX_mp g111 q), ?_⟩
  intro τ376 e112
  replace h := of_lt h e112
  intro τ381 e113
  replace h := of_lt h e113
  obtain ⟨g114, h⟩ := of_gd h
  refine ⟨(alB_mp g114), ?_⟩
  obtain ⟨g115, h⟩ := of_gd h
  refine ⟨(fun q => shOX_mp g115 q), ?_⟩
  intro τ390 e116
  replace h := of_lt h e116
  intro τ395 e117
  replace h := of_lt h e117
  obtain ⟨g118, h⟩ := of_gd h
  refine ⟨(alB_mp g118), ?_⟩
  obtain ⟨g119, h⟩ := of_gd h
  refine ⟨(fun q => shOX_mp g119 q), ?_⟩
  intro τ404 e120
  replace h := of_lt h e120
  intro τ409 e121
  replace h := of_lt h e121
  obtain ⟨g122, h⟩ := of_gd h
  refine ⟨(alB_mp g122), ?_⟩
  obtain ⟨g123, h⟩ := of_gd h
  refine ⟨(fun q => shOX_mp g123 q), ?_⟩
  intro τ418 e124
  replace h := of_lt h e124
  intro τ423 e125
  replace h := of_lt h e125
  obtain ⟨g126, h⟩ := of_gd h
  refine ⟨(alB_mp g126), ?_⟩
  obtain ⟨g127, h⟩ := of_gd h
  refine ⟨(fun q => shOX_mp g127 q), ?_⟩
  intro τ432 e128
  replace h := of_lt h e128
  intro τ437 e129
  replace h := of_lt h e129
  obtain ⟨g130, h⟩ := of_gd h
  refine ⟨(alB_mp g130), ?_⟩
  obtain ⟨g131, h⟩ := of_gd h
  refine ⟨(fun q => shOX_mp g131 q), ?_⟩
  intro τ446 e132
  replace h := of_lt h e132
  intro τ451 e133
  replace h := of_lt h e133
  obtain ⟨g134, h⟩ := of_gd h
  refine ⟨(alB_mp g134), ?_⟩
  obtain ⟨g135, h⟩ := of_gd h
  refine ⟨(fun q => shOX_mp g135 q), ?_⟩
  intro τ460 e136
  replace h := of_lt h e136
  intro τ465 e137
  replace h := of_lt h e137
  obtain ⟨g138, h⟩ := of_gd h
  refine ⟨(alB_mp g138), ?_⟩
  obtain ⟨g139, h⟩ := of_gd h
  refine ⟨(fun q => shOX_mp g139 q), ?_⟩
  intro τ474 e140
  replace h := of_lt h e140
  intro τ479 e141
  replace h := of_lt h e141
  obtain ⟨g142, h⟩ := of_gd h
  refine ⟨(alB_mp g142), ?_⟩
  obtain ⟨g143, h⟩ := of_gd h
  refine ⟨(fun q => shOX_mp g143 q), ?_⟩
  intro τ488 e144
  replace h := of_lt h e144
  intro τ493 e145
  replace h := of_lt h e145
  obtain ⟨g146, h⟩ := of_gd h
  refine ⟨(alB_mp g146), ?_⟩
  obtain ⟨g147, h⟩ := of_gd h
  refine ⟨(fun q => shOX_mp g147 q), ?_⟩
  intro τ502 e148
  replace h := of_lt h e148
  intro τ507 e149
  replace h := of_lt h e149
  obtain ⟨g150, h⟩ := of_gd h
  refine ⟨(alB_mp g150), ?_⟩
  obtain ⟨g151, h⟩ := of_gd h
  refine ⟨(fun q => shOX_mp g151 q), ?_⟩
  intro τ516 e152
  replace h := of_lt h e152
  intro τ521 e153
  replace h := of_lt h e153
  obtain ⟨g154, h⟩ := of_gd h
  refine ⟨(alB_mp g154), ?_⟩
  obtain ⟨g155, h⟩ := of_gd h
  refine ⟨(fun q => shOX_mp g155 q), ?_⟩
  intro τ530 e156
  replace h := of_lt h e156
  intro τ535 e157
  replace h := of_lt h e157
  obtain ⟨g158, h⟩ := of_gd h
  refine ⟨(alB_mp g158), ?_⟩
  obtain ⟨g159, h⟩ := of_gd h
  refine ⟨(fun q => shOX_mp g159 q), ?_⟩
  intro τ544 e160
  replace h := of_lt h e160
  intro τ549 e161
  replace h := of_lt h e161
  obtain ⟨g162, h⟩ := of_gd h
  refine ⟨(alB_mp g162), ?_⟩
  obtain ⟨g163, h⟩ := of_gd h
  refine ⟨(fun q => shOX_mp g163 q), ?_⟩
  intro τ558 e164
  replace h := of_lt h e164
  intro τ563 e165
  replace h := of_lt h e165
  obtain ⟨g166, h⟩ := of_gd h
  refine ⟨(alB_mp g166), ?_⟩
  obtain ⟨g167, h⟩ := of_gd h
  refine ⟨(fun q => shOX_mp g167 q), ?_⟩
  intro τ572 e168
  replace h := of_lt h e168
  exact ret_v h
theorem f_X12_init {X : Sx} {l : Launch} {x0 : Nat} {σ : AH} {σ' : AH} (h : F_X12_init x0 σ = some σ') : Call X l m_X12_init 1 [.ref x0] σ none σ' :=
  Call.ofE ok_X12_init rfl (Nat.le_of_ble_eq_true rfl) (w_X12_init_0  (t_X12_init_0 (Nat.le_refl _)  h))
def F_X12_in (x0 : Int64) (x2 : Int64) (x4 : Int64) (σ : AH) : Option (Int32 × AH) := (if x0 < x2 then (some ((0 : Int32), σ)) else (if x4 < x0 then (some ((0 : Int32), σ)) else (some ((1 : Int32), σ))))
set_option maxRecDepth 100000 in
theorem t_X12_in_0 {X : Sx} {l : Launch} {D : Nat} {x0 : Int64} {x2 : Int64} {x4 : Int64} {σ : AH} {v : Int32} {σ' : AH} (hD : 0 ≤ D) (hs : Sh σ) (h : F_X12_in x0 x2 x4 σ = some (v, σ')) : W_X12_in_0 X l D x0 x2 x4 σ (some (.int v)) σ' := by
  unfold F_X12_in at h
  unfold W_X12_in_0
  refine ite_i (fun c1 => ?_) (fun c1 => ?_)
  · replace h := of_ifp h c1
    exact ret_i h
  · replace h := of_ifn h c1
    refine ite_i (fun c2 => ?_) (fun c2 => ?_)
    · replace h := of_ifp h c2
      exact ret_i h
    · replace h := of_ifn h c2
      exact ret_i h
theorem f_X12_in {X : Sx} {l : Launch} {x0 : Int64} {x2 : Int64} {x4 : Int64} {σ : AH} {v : Int32} {σ' : AH} (hs : Sh σ) (h : F_X12_in x0 x2 x4 σ = some (v, σ')) : Call X l m_X12_in 0 [.long x0, .long x2, .long x4] σ (some (.int v)) σ' :=
  Call.ofE ok_X12_in rfl (Nat.le_of_ble_eq_true rfl) (w_X12_in_0 hs  (t_X12_in_0 (Nat.le_refl _) hs  h))
def F_X12_told_10 (x1 : Int32) (y0 : Int32) (σ : AH) : Option (Int32 × AH) := (some (x1, (sI σ 124 1 y0)))
def F_X12_told (x1 : Int32) (σ : AH) : Option (Int32 × AH) := (if 0 ≤ x1 then (F_X12_told_10 x1 (0 : Int32) σ) else (F_X12_told_10 x1 x1 σ))
set_option maxRecDepth 100000 in
theorem t_X12_told_10 {X : Sx} {l : Launch} {D : Nat} {x1 : Int32} {y0 : Int32} {σ : AH} {v : Int32} {σ' : AH} (hD : 0 ≤ D) (hs : Sh σ) (h : F_X12_told_10 x1 y0 σ = some (v, σ')) : W_X12_told_10 X l D x1 y0 σ (some (.int v)) σ' := by
  unfold F_X12_told_10 at h
  unfold W_X12_told_10
  exact ret_i h
set_option maxRecDepth 100000 in
theorem t_X12_told_0 {X : Sx} {l : Launch} {D : Nat} {x1 : Int32} {σ : AH} {v : Int32} {σ' : AH} (hD : 0 ≤ D) (hs : Sh σ) (h : F_X12_told x1 σ = some (v, σ')) : W_X12_told_0 X l D x1 σ (some (.int v)) σ' := by
  unfold F_X12_told at h
  unfold W_X12_told_0
  refine ite_i (fun c1 => ?_) (fun c1 => ?_)
  · replace h := of_ifp h c1
    exact t_X12_told_10 hD  hs  h
  · replace h := of_ifn h c1
    exact t_X12_told_10 hD  hs  h
theorem f_X12_told {X : Sx} {l : Launch} {x1 : Int32} {σ : AH} {v : Int32} {σ' : AH} (hs : Sh σ) (h : F_X12_told x1 σ = some (v, σ')) : Call X l m_X12_told 0 [.ref 124, .int x1] σ (some (.int v)) σ' :=
  Call.ofE ok_X12_told rfl (Nat.le_of_ble_eq_true rfl) (w_X12_told_0 hs  (t_X12_told_0 (Nat.le_refl _) hs  h))
def F_X12_isWeek (x0 : Int32) (σ : AH) : Option (Int32 × AH) := (bd (F_X12_in (x0).toInt64 (0 : Int64) (259 : Int64) σ) fun v6 σ2 => (if v6 = 0 ∨ v6 = 1 then some (v6, σ2) else none))
set_option maxRecDepth 100000 in
theorem t_X12_isWeek_0 {X : Sx} {l : Launch} {D : Nat} {x0 : Int32} {σ : AH} {v : Int32} {σ' : AH} (hD : 1 ≤ D) (hs : Sh σ) (h : F_X12_isWeek x0 σ = some (v, σ')) : W_X12_isWeek_0 X l D x0 σ (some (.int v)) σ' := by
  unfold F_X12_isWeek at h
  unfold W_X12_isWeek_0
  obtain ⟨v6, σ2, q1, h⟩ := of_bd h
  have hC2 := f_X12_in (σ := σ) hs  q1 (X := X) (l := l)
  have hs3 := hC2.1.2.2.2.1 hs
  refine ⟨0, v6, σ2, (Nat.le_trans (by decide) hD), hC2, ?_⟩
  exact ⟨(of_gd h).1, ret_i (of_gd h).2⟩
theorem f_X12_isWeek {X : Sx} {l : Launch} {x0 : Int32} {σ : AH} {v : Int32} {σ' : AH} (hs : Sh σ) (h : F_X12_isWeek x0 σ = some (v, σ')) : Call X l m_X12_isWeek 1 [.int x0] σ (some (.int v)) σ' :=
  Call.ofE ok_X12_isWeek rfl (Nat.le_of_ble_eq_true rfl) (w_X12_isWeek_0 hs  (t_X12_isWeek_0 (Nat.le_refl _) hs  h))
def F_X12_isCouncil (x0 : Int32) (σ : AH) : Option (Int32 × AH) := (bd (F_X12_in (x0).toInt64 (0 : Int64) (5 : Int64) σ) fun v6 σ2 => (if v6 = 0 ∨ v6 = 1 then some (v6, σ2) else none))
set_option maxRecDepth 100000 in
theorem t_X12_isCouncil_0 {X : Sx} {l : Launch} {D : Nat} {x0 : Int32} {σ : AH} {v : Int32} {σ' : AH} (hD : 1 ≤ D) (hs : Sh σ) (h : F_X12_isCouncil x0 σ = some (v, σ')) : W_X12_isCouncil_0 X l D x0 σ (some (.int v)) σ' := by
  unfold F_X12_isCouncil at h
  unfold W_X12_isCouncil_0
  obtain ⟨v6, σ2, q1, h⟩ := of_bd h
  have hC2 := f_X12_in (σ := σ) hs  q1 (X := X) (l := l)
  have hs3 := hC2.1.2.2.2.1 hs
  refine ⟨0, v6, σ2, (Nat.le_trans (by decide) hD), hC2, ?_⟩
  exact ⟨(of_gd h).1, ret_i (of_gd h).2⟩
theorem f_X12_isCouncil {X : Sx} {l : Launch} {x0 : Int32} {σ : AH} {v : Int32} {σ' : AH} (hs : Sh σ) (h : F_X12_isCouncil x0 σ = some (v, σ')) : Call X l m_X12_isCouncil 1 [.int x0] σ (some (.int v)) σ' :=
  Call.ofE ok_X12_isCouncil rfl (Nat.le_of_ble_eq_true rfl) (w_X12_isCouncil_0 hs  (t_X12_isCouncil_0 (Nat.le_refl _) hs  h))
def F_X12_isQuarter (x0 : Int32) (σ : AH) : Option (Int32 × AH) := (bd (F_X12_in (x0).toInt64 (0 : Int64) (19 : Int64) σ) fun v6 σ2 => (if v6 = 0 ∨ v6 = 1 then some (v6, σ2) else none))
set_option maxRecDepth 100000 in
theorem t_X12_isQuarter_0 {X : Sx} {l : Launch} {D : Nat} {x0 : Int32} {σ : AH} {v : Int32} {σ' : AH} (hD : 1 ≤ D) (hs : Sh σ) (h : F_X12_isQuarter x0 σ = some (v, σ')) : W_X12_isQuarter_0 X l D x0 σ (some (.int v)) σ' := by
  unfold F_X12_isQuarter at h
  unfold W_X12_isQuarter_0
  obtain ⟨v6, σ2, q1, h⟩ := of_bd h
  have hC2 := f_X12_in (σ := σ) hs  q1 (X := X) (l := l)
  have hs3 := hC2.1.2.2.2.1 hs
  refine ⟨0, v6, σ2, (Nat.le_trans (by decide) hD), hC2, ?_⟩
  exact ⟨(of_gd h).1, ret_i (of_gd h).2⟩
theorem f_X12_isQuarter {X : Sx} {l : Launch} {x0 : Int32} {σ : AH} {v : Int32} {σ' : AH} (hs : Sh σ) (h : F_X12_isQuarter x0 σ = some (v, σ')) : Call X l m_X12_isQuarter 1 [.int x0] σ (some (.int v)) σ' :=
  Call.ofE ok_X12_isQuarter rfl (Nat.le_of_ble_eq_true rfl) (w_X12_isQuarter_0 hs  (t_X12_isQuarter_0 (Nat.le_refl _) hs  h))
def B_X12_image_25 (k_X12_image_25 : Int32 → Int32 → AH → Option (Int32 × AH)) (x1 : Int32) (x2 : Int32) (σ : AH) : Option (Int32 × AH) := (if (269832 : Int32) ≤ x2 then (if inB x1 3 = true then (bd (F_X12_told (0 : Int32) (sI σ 127 x1.toNatClampNeg (1 : Int32))) fun v19 σ15 => (some (v19, σ15))) else none) else (if inB x2 269832 = true then (if inB (((269832 : Int32) * x1) + x2) 809496 = true then (k_X12_image_25 x1 (x2 + 1) (sI σ 126 ((((269832 : Int32) * x1) + x2).toNatClampNeg) (gI σ 125 x2.toNatClampNeg))) else none) else none))
def F_X12_image_25 : Nat → Int32 → Int32 → AH → Option (Int32 × AH) := fun k => match k with | 0 => fun _ _ _ => none | k + 1 => B_X12_image_25 (F_X12_image_25 k)
def F_X12_image (x1 : Int32) (σ : AH) : Option (Int32 × AH) := (bd (F_X12_in (x1).toInt64 (0 : Int64) (2 : Int64) (sI σ 124 0 (0 : Int32))) fun v6 σ2 => (if v6 = 0 then (bd (F_X12_told (-1 : Int32) σ2) fun v12 σ8 => (some (v12, σ8))) else (F_X12_image_25 BIG x1 (0 : Int32) σ2)))
set_option maxRecDepth 100000 in
theorem t_X12_image_25 {X : Sx} {l : Launch} {D : Nat} {k_X12_image_25 : Int32 → Int32 → AH → Option (Int32 × AH)} {x1 : Int32} {x2 : Int32} {σ : AH} {v : Int32} {σ' : AH} (hD : 1 ≤ D) (hk_X12_image_25 : ∀ (x1 : Int32) (x2 : Int32) (σ : AH) (v : Int32) (σ' : AH), Sh σ → k_X12_image_25 x1 x2 σ = some (v, σ') → E X l m_X12_image D 25 [(0, .ref 124), (1, .int x1), (2, .int x2)] [] σ (some (.int v)) σ') (hs : Sh σ) (h : B_X12_image_25 k_X12_image_25 x1 x2 σ = some (v, σ')) : W_X12_image_25 X l D x1 x2 σ (some (.int v)) σ' := by
  unfold B_X12_image_25 at h
  unfold W_X12_image_25
  refine ite_i (fun c1 => ?_) (fun c1 => ?_)
  · replace h := of_ifp h c1
    obtain ⟨g2, h⟩ := of_gd h
    refine ⟨(inB_mp g2), ?_⟩
    obtain ⟨v19, σ15, q3, h⟩ := of_bd h
    have hC4 := f_X12_told (σ := (sI σ 127 x1.toNatClampNeg (1 : Int32))) hs  q3 (X := X) (l := l)
    have hs5 := hC4.1.2.2.2.1 hs
    refine ⟨0, v19, σ15, (Nat.le_trans (by decide) hD), hC4, ?_⟩
    exact ret_i h
  · replace h := of_ifn h c1
    obtain ⟨g6, h⟩ := of_gd h
    refine ⟨(inB_mp g6), ?_⟩
    obtain ⟨g7, h⟩ := of_gd h
    refine ⟨(inB_mp g7), ?_⟩
    exact hk_X12_image_25 _ _ _ _ _ hs  h
theorem e_X12_image_25 {X : Sx} {l : Launch} {D : Nat} (hD : 1 ≤ D) : ∀ (k : Nat) (x1 : Int32) (x2 : Int32) (σ : AH) (v : Int32) (σ' : AH), Sh σ → F_X12_image_25 k x1 x2 σ = some (v, σ') → E X l m_X12_image D 25 [(0, .ref 124), (1, .int x1), (2, .int x2)] [] σ (some (.int v)) σ' := by
  intro k
  induction k with
  | zero => intro x1 x2 σ v σ' hs h; cases h
  | succ k ih =>
    intro x1 x2 σ v σ' hs h
    exact w_X12_image_25 hs  (t_X12_image_25 hD ih hs  h)
set_option maxRecDepth 100000 in
theorem t_X12_image_0 {X : Sx} {l : Launch} {D : Nat} {x1 : Int32} {σ : AH} {v : Int32} {σ' : AH} (hD : 1 ≤ D) (hs : Sh σ) (h : F_X12_image x1 σ = some (v, σ')) : W_X12_image_0 X l D x1 σ (some (.int v)) σ' := by
  unfold F_X12_image at h
  unfold W_X12_image_0
  obtain ⟨v6, σ2, q1, h⟩ := of_bd h
  have hC2 := f_X12_in (σ := (sI σ 124 0 (0 : Int32))) hs  q1 (X := X) (l := l)
  have hs3 := hC2.1.2.2.2.1 hs
  refine ⟨0, v6, σ2, (Nat.le_trans (by decide) hD), hC2, ?_⟩
  refine ite_i (fun c4 => ?_) (fun c4 => ?_)
  · replace h := of_ifp h c4
    obtain ⟨v12, σ8, q5, h⟩ := of_bd h
    have hC6 := f_X12_told (σ := σ2) hs3  q5 (X := X) (l := l)
    have hs7 := hC6.1.2.2.2.1 hs3
    refine ⟨0, v12, σ8, (Nat.le_trans (by decide) hD), hC6, ?_⟩
    exact ret_i h
  · replace h := of_ifn h c4
    exact e_X12_image_25 hD  _ _ _ _ _ _ hs3  h
theorem f_X12_image {X : Sx} {l : Launch} {x1 : Int32} {σ : AH} {v : Int32} {σ' : AH} (hs : Sh σ) (h : F_X12_image x1 σ = some (v, σ')) : Call X l m_X12_image 1 [.ref 124, .int x1] σ (some (.int v)) σ' :=
  Call.ofE ok_X12_image rfl (Nat.le_of_ble_eq_true rfl) (w_X12_image_0 hs  (t_X12_image_0 (Nat.le_refl _) hs  h))
def B_X12_back_41 (k_X12_back_41 : Int32 → Int32 → AH → Option (Int32 × AH)) (x1 : Int32) (x2 : Int32) (σ : AH) : Option (Int32 × AH) := (if (269832 : Int32) ≤ x2 then (bd (F_X12_told (0 : Int32) (sI (sI σ 124 6 (0 : Int32)) 124 48 (0 : Int32))) fun v25 σ21 => (some (v25, σ21))) else (if inB (((269832 : Int32) * x1) + x2) 809496 = true then (if inB x2 269832 = true then (k_X12_back_41 x1 (x2 + 1) (sI σ 125 x2.toNatClampNeg (gI σ 126 (((269832 : Int32) * x1) + x2).toNatClampNeg))) else none) else none))
def F_X12_back_41 : Nat → Int32 → Int32 → AH → Option (Int32 × AH) := fun k => match k with | 0 => fun _ _ _ => none | k + 1 => B_X12_back_41 (F_X12_back_41 k)
def F_X12_back (x1 : Int32) (σ : AH) : Option (Int32 × AH) := (bd (F_X12_in (x1).toInt64 (0 : Int64) (2 : Int64) (sI σ 124 0 (0 : Int32))) fun v6 σ2 => (if v6 = 0 then (bd (F_X12_told (-1 : Int32) σ2) fun v19 σ15 => (some (v19, σ15))) else (if inB x1 3 = true then (if (gI σ2 127 x1.toNatClampNeg) = 0 then (bd (F_X12_told (-2 : Int32) σ2) fun v13 σ9 => (some (v13, σ9))) else (F_X12_back_41 BIG x1 (0 : Int32) σ2)) else none)))
set_option maxRecDepth 100000 in
theorem t_X12_back_41 {X : Sx} {l : Launch} {D : Nat} {k_X12_back_41 : Int32 → Int32 → AH → Option (Int32 × AH)} {x1 : Int32} {x2 : Int32} {σ : AH} {v : Int32} {σ' : AH} (hD : 1 ≤ D) (hk_X12_back_41 : ∀ (x1 : Int32) (x2 : Int32) (σ : AH) (v : Int32) (σ' : AH), Sh σ → k_X12_back_41 x1 x2 σ = some (v, σ') → E X l m_X12_back D 41 [(0, .ref 124), (1, .int x1), (2, .int x2)] [] σ (some (.int v)) σ') (hs : Sh σ) (h : B_X12_back_41 k_X12_back_41 x1 x2 σ = some (v, σ')) : W_X12_back_41 X l D x1 x2 σ (some (.int v)) σ' := by
  unfold B_X12_back_41 at h
  unfold W_X12_back_41
  refine ite_i (fun c1 => ?_) (fun c1 => ?_)
  · replace h := of_ifp h c1
    obtain ⟨v25, σ21, q2, h⟩ := of_bd h
    have hC3 := f_X12_told (σ := (sI (sI σ 124 6 (0 : Int32)) 124 48 (0 : Int32))) hs  q2 (X := X) (l := l)
    have hs4 := hC3.1.2.2.2.1 hs
    refine ⟨0, v25, σ21, (Nat.le_trans (by decide) hD), hC3, ?_⟩
    exact ret_i h
  · replace h := of_ifn h c1
    obtain ⟨g5, h⟩ := of_gd h
    refine ⟨(inB_mp g5), ?_⟩
    obtain ⟨g6, h⟩ := of_gd h
    refine ⟨(inB_mp g6), ?_⟩
    exact hk_X12_back_41 _ _ _ _ _ hs  h
theorem e_X12_back_41 {X : Sx} {l : Launch} {D : Nat} (hD : 1 ≤ D) : ∀ (k : Nat) (x1 : Int32) (x2 : Int32) (σ : AH) (v : Int32) (σ' : AH), Sh σ → F_X12_back_41 k x1 x2 σ = some (v, σ') → E X l m_X12_back D 41 [(0, .ref 124), (1, .int x1), (2, .int x2)] [] σ (some (.int v)) σ' := by
  intro k
  induction k with
  | zero => intro x1 x2 σ v σ' hs h; cases h
  | succ k ih =>
    intro x1 x2 σ v σ' hs h
    exact w_X12_back_41 hs  (t_X12_back_41 hD ih hs  h)
set_option maxRecDepth 100000 in
theorem t_X12_back_0 {X : Sx} {l : Launch} {D : Nat} {x1 : Int32} {σ : AH} {v : Int32} {σ' : AH} (hD : 1 ≤ D) (hs : Sh σ) (h : F_X12_back x1 σ = some (v, σ')) : W_X12_back_0 X l D x1 σ (some (.int v)) σ' := by
  unfold F_X12_back at h
  unfold W_X12_back_0
  obtain ⟨v6, σ2, q1, h⟩ := of_bd h
  have hC2 := f_X12_in (σ := (sI σ 124 0 (0 : Int32))) hs  q1 (X := X) (l := l)
  have hs3 := hC2.1.2.2.2.1 hs
  refine ⟨0, v6, σ2, (Nat.le_trans (by decide) hD), hC2, ?_⟩
  refine ite_i (fun c4 => ?_) (fun c4 => ?_)
  · replace h := of_ifp h c4
    obtain ⟨v19, σ15, q5, h⟩ := of_bd h
    have hC6 := f_X12_told (σ := σ2) hs3  q5 (X := X) (l := l)
    have hs7 := hC6.1.2.2.2.1 hs3
    refine ⟨0, v19, σ15, (Nat.le_trans (by decide) hD), hC6, ?_⟩
    exact ret_i h
  · replace h := of_ifn h c4
    obtain ⟨g8, h⟩ := of_gd h
    refine ⟨(inB_mp g8), ?_⟩
    refine ite_i (fun c9 => ?_) (fun c9 => ?_)
    · replace h := of_ifp h c9
      obtain ⟨v13, σ9, q10, h⟩ := of_bd h
      have hC11 := f_X12_told (σ := σ2) hs3  q10 (X := X) (l := l)
      have hs12 := hC11.1.2.2.2.1 hs3
      refine ⟨0, v13, σ9, (Nat.le_trans (by decide) hD), hC11, ?_⟩
      exact ret_i h
    · replace h := of_ifn h c9
      exact e_X12_back_41 hD  _ _ _ _ _ _ hs3  h
theorem f_X12_back {X : Sx} {l : Launch} {x1 : Int32} {σ : AH} {v : Int32} {σ' : AH} (hs : Sh σ) (h : F_X12_back x1 σ = some (v, σ')) : Call X l m_X12_back 1 [.ref 124, .int x1] σ (some (.int v)) σ' :=
  Call.ofE ok_X12_back rfl (Nat.le_of_ble_eq_true rfl) (w_X12_back_0 hs  (t_X12_back_0 (Nat.le_refl _) hs  h))
def F_X12_addFour (x1 : Int32) (x2 : Int32) (x3 : Int32) (x4 : Int32) (x5 : Int32) (σ : AH) : Option AH := (if inB x1 269832 = true then (if inB (x1 + (1 : Int32)) 269832 = true then (if inB (x1 + (2 : Int32)) 269832 = true then (if inB (x1 + (3 : Int32)) 269832 = true then (lt (sI (sI (sI (sI σ 125 x1.toNatClampNeg x2) 125 ((x1 + (1 : Int32)).toNatClampNeg) x3) 125 ((x1 + (2 : Int32)).toNatClampNeg) x4) 125 ((x1 + (3 : Int32)).toNatClampNeg) x5) fun τ5 => (some τ5)) else none) else none) else none) else none)
set_option maxRecDepth 100000 in
theorem t_X12_addFour_0 {X : Sx} {l : Launch} {D : Nat} {x1 : Int32} {x2 : Int32} {x3 : Int32} {x4 : Int32} {x5 : Int32} {σ : AH} {σ' : AH} (hD : 0 ≤ D) (hs : Sh σ) (h : F_X12_addFour x1 x2 x3 x4 x5 σ = some σ') : W_X12_addFour_0 X l D x1 x2 x3 x4 x5 σ none σ' := by
  unfold F_X12_addFour at h
  unfold W_X12_addFour_0
  obtain ⟨g1, h⟩ := of_gd h
  refine ⟨(inB_mp g1), ?_⟩
  obtain ⟨g2, h⟩ := of_gd h
  refine ⟨(inB_mp g2), ?_⟩
  obtain ⟨g3, h⟩ := of_gd h
  refine ⟨(inB_mp g3), ?_⟩
  obtain ⟨g4, h⟩ := of_gd h
  refine ⟨(inB_mp g4), ?_⟩
  intro τ5 e5
  replace h := of_lt h e5
  have hs6 : Sh τ5 := by rw [e5]; exact hs
  exact ret_v h
theorem f_X12_addFour {X : Sx} {l : Launch} {x1 : Int32} {x2 : Int32} {x3 : Int32} {x4 : Int32} {x5 : Int32} {σ : AH} {σ' : AH} (hs : Sh σ) (h : F_X12_addFour x1 x2 x3 x4 x5 σ = some σ') : Call X l m_X12_addFour 0 [.ref 124, .int x1, .int x2, .int x3, .int x4, .int x5] σ none σ' :=
  Call.ofE ok_X12_addFour rfl (Nat.le_of_ble_eq_true rfl) (w_X12_addFour_0 hs  (t_X12_addFour_0 (Nat.le_refl _) hs  h))
def B_X12_four_3 (k_X12_four_3 : Int32 → Int32 → AH → Option AH) (x1 : Int32) (x2 : Int32) (σ : AH) : Option AH := (if x2 < 0 then (some σ) else (if inB (gI σ 124 6) 400 = true then (lt (sI (sI σ 128 ((gI σ 124 6).toNatClampNeg) ((x1 >>> (x2 &&& 31)) &&& (255 : Int32))) 124 6 ((gI (sI σ 128 ((gI σ 124 6).toNatClampNeg) ((x1 >>> (x2 &&& 31)) &&& (255 : Int32))) 124 6) + (1 : Int32))) fun τ2 => (k_X12_four_3 x1 (x2 + (-8)) τ2)) else none))
def F_X12_four_3 : Nat → Int32 → Int32 → AH → Option AH := fun k => match k with | 0 => fun _ _ _ => none | k + 1 => B_X12_four_3 (F_X12_four_3 k)
def F_X12_four (x1 : Int32) (σ : AH) : Option AH := (F_X12_four_3 BIG x1 (24 : Int32) σ)
set_option maxRecDepth 100000 in
theorem t_X12_four_3 {X : Sx} {l : Launch} {D : Nat} {k_X12_four_3 : Int32 → Int32 → AH → Option AH} {x1 : Int32} {x2 : Int32} {σ : AH} {σ' : AH} (hD : 0 ≤ D) (hk_X12_four_3 : ∀ (x1 : Int32) (x2 : Int32) (σ : AH) (σ' : AH), Sh σ → k_X12_four_3 x1 x2 σ = some σ' → E X l m_X12_four D 3 [(0, .ref 124), (1, .int x1), (2, .int x2)] [] σ none σ') (hs : Sh σ) (h : B_X12_four_3 k_X12_four_3 x1 x2 σ = some σ') : W_X12_four_3 X l D x1 x2 σ none σ' := by
  unfold B_X12_four_3 at h
  unfold W_X12_four_3
  refine ite_i (fun c1 => ?_) (fun c1 => ?_)
  · replace h := of_ifp h c1
    exact ret_v h
  · replace h := of_ifn h c1
    obtain ⟨g2, h⟩ := of_gd h
    refine ⟨(inB_mp g2), ?_⟩
    intro τ2 e3
    replace h := of_lt h e3
    have hs4 : Sh τ2 := by rw [e3]; exact hs
    exact hk_X12_four_3 _ _ _ _ hs4  h
theorem e_X12_four_3 {X : Sx} {l : Launch} {D : Nat} (hD : 0 ≤ D) : ∀ (k : Nat) (x1 : Int32) (x2 : Int32) (σ : AH) (σ' : AH), Sh σ → F_X12_four_3 k x1 x2 σ = some σ' → E X l m_X12_four D 3 [(0, .ref 124), (1, .int x1), (2, .int x2)] [] σ none σ' := by
  intro k
  induction k with
  | zero => intro x1 x2 σ σ' hs h; cases h
  | succ k ih =>
    intro x1 x2 σ σ' hs h
    exact w_X12_four_3 hs  (t_X12_four_3 hD ih hs  h)
set_option maxRecDepth 100000 in
theorem t_X12_four_0 {X : Sx} {l : Launch} {D : Nat} {x1 : Int32} {σ : AH} {σ' : AH} (hD : 0 ≤ D) (hs : Sh σ) (h : F_X12_four x1 σ = some σ') : W_X12_four_0 X l D x1 σ none σ' := by
  unfold F_X12_four at h
  unfold W_X12_four_0
  exact e_X12_four_3 hD  _ _ _ _ _ hs  h
theorem f_X12_four {X : Sx} {l : Launch} {x1 : Int32} {σ : AH} {σ' : AH} (hs : Sh σ) (h : F_X12_four x1 σ = some σ') : Call X l m_X12_four 0 [.ref 124, .int x1] σ none σ' :=
  Call.ofE ok_X12_four rfl (Nat.le_of_ble_eq_true rfl) (w_X12_four_0 hs  (t_X12_four_0 (Nat.le_refl _) hs  h))
def F_X12_feed (x1 : Int32) (x2 : Int32) (x3 : Int32) (x4 : Int32) (x5 : Int32) (σ : AH) : Option (Int32 × AH) := (if ((gI (sI σ 124 0 (0 : Int32)) 124 6) + (20 : Int32)) ≤ (400 : Int32) then (bv (F_X12_four x1 (sI σ 124 0 (0 : Int32))) fun σ2 => (bv (F_X12_four x2 σ2) fun σ7 => (bv (F_X12_four x3 σ7) fun σ12 => (bv (F_X12_four x4 σ12) fun σ17 => (bv (F_X12_four x5 σ17) fun σ22 => (some ((gI σ22 124 6), σ22))))))) else (some ((-1 : Int32), (sI σ 124 0 (0 : Int32)))))
set_option maxRecDepth 100000 in
theorem t_X12_feed_0 {X : Sx} {l : Launch} {D : Nat} {x1 : Int32} {x2 : Int32} {x3 : Int32} {x4 : Int32} {x5 : Int32} {σ : AH} {v : Int32} {σ' : AH} (hD : 1 ≤ D) (hs : Sh σ) (h : F_X12_feed x1 x2 x3 x4 x5 σ = some (v, σ')) : W_X12_feed_0 X l D x1 x2 x3 x4 x5 σ (some (.int v)) σ' := by
  unfold F_X12_feed at h
  unfold W_X12_feed_0
  refine ite_i (fun c1 => ?_) (fun c1 => ?_)
  · replace h := of_ifp h c1
    obtain ⟨σ2, q2, h⟩ := of_bv h
    have hC3 := f_X12_four (σ := (sI σ 124 0 (0 : Int32))) hs  q2 (X := X) (l := l)
    have hs4 := hC3.1.2.2.2.1 hs
    refine ⟨0, σ2, (Nat.le_trans (by decide) hD), hC3, ?_⟩
    obtain ⟨σ7, q5, h⟩ := of_bv h
    have hC6 := f_X12_four (σ := σ2) hs4  q5 (X := X) (l := l)
    have hs7 := hC6.1.2.2.2.1 hs4
    refine ⟨0, σ7, (Nat.le_trans (by decide) hD), hC6, ?_⟩
    obtain ⟨σ12, q8, h⟩ := of_bv h
    have hC9 := f_X12_four (σ := σ7) hs7  q8 (X := X) (l := l)
    have hs10 := hC9.1.2.2.2.1 hs7
    refine ⟨0, σ12, (Nat.le_trans (by decide) hD), hC9, ?_⟩
    obtain ⟨σ17, q11, h⟩ := of_bv h
    have hC12 := f_X12_four (σ := σ12) hs10  q11 (X := X) (l := l)
    have hs13 := hC12.1.2.2.2.1 hs10
    refine ⟨0, σ17, (Nat.le_trans (by decide) hD), hC12, ?_⟩
    obtain ⟨σ22, q14, h⟩ := of_bv h
    have hC15 := f_X12_four (σ := σ17) hs13  q14 (X := X) (l := l)
    have hs16 := hC15.1.2.2.2.1 hs13
    refine ⟨0, σ22, (Nat.le_trans (by decide) hD), hC15, ?_⟩
    exact ret_i h
  · replace h := of_ifn h c1
    exact ret_i h
theorem f_X12_feed {X : Sx} {l : Launch} {x1 : Int32} {x2 : Int32} {x3 : Int32} {x4 : Int32} {x5 : Int32} {σ : AH} {v : Int32} {σ' : AH} (hs : Sh σ) (h : F_X12_feed x1 x2 x3 x4 x5 σ = some (v, σ')) : Call X l m_X12_feed 1 [.ref 124, .int x1, .int x2, .int x3, .int x4, .int x5] σ (some (.int v)) σ' :=
  Call.ofE ok_X12_feed rfl (Nat.le_of_ble_eq_true rfl) (w_X12_feed_0 hs  (t_X12_feed_0 (Nat.le_refl _) hs  h))
def F_X12_end (x1 : Int32) (σ : AH) : Option (Int32 × AH) := (if x1 < 0 then (some ((-1 : Int32), (sI σ 124 0 (0 : Int32)))) else (if x1 ≤ (gI (sI σ 124 0 (0 : Int32)) 124 6) then (some (x1, (sI (sI σ 124 0 (0 : Int32)) 124 6 x1))) else (some ((-1 : Int32), (sI σ 124 0 (0 : Int32))))))
set_option maxRecDepth 100000 in
theorem t_X12_end_0 {X : Sx} {l : Launch} {D : Nat} {x1 : Int32} {σ : AH} {v : Int32} {σ' : AH} (hD : 0 ≤ D) (hs : Sh σ) (h : F_X12_end x1 σ = some (v, σ')) : W_X12_end_0 X l D x1 σ (some (.int v)) σ' := by
  unfold F_X12_end at h
  unfold W_X12_end_0
  refine ite_i (fun c1 => ?_) (fun c1 => ?_)
  · replace h := of_ifp h c1
    exact ret_i h
  · replace h := of_ifn h c1
    refine ite_i (fun c2 => ?_) (fun c2 => ?_)
    · replace h := of_ifp h c2
      exact ret_i h
    · replace h := of_ifn h c2
      exact ret_i h
theorem f_X12_end {X : Sx} {l : Launch} {x1 : Int32} {σ : AH} {v : Int32} {σ' : AH} (hs : Sh σ) (h : F_X12_end x1 σ = some (v, σ')) : Call X l m_X12_end 0 [.ref 124, .int x1] σ (some (.int v)) σ' :=
  Call.ofE ok_X12_end rfl (Nat.le_of_ble_eq_true rfl) (w_X12_end_0 hs  (t_X12_end_0 (Nat.le_refl _) hs  h))
def F_X12_isSmall (x0 : Int32) (σ : AH) : Option (Int32 × AH) := (if x0 < (97 : Int32) then (some ((0 : Int32), σ)) else (if (122 : Int32) < x0 then (some ((0 : Int32), σ)) else (some ((1 : Int32), σ))))
set_option maxRecDepth 100000 in
theorem t_X12_isSmall_0 {X : Sx} {l : Launch} {D : Nat} {x0 : Int32} {σ : AH} {v : Int32} {σ' : AH} (hD : 0 ≤ D) (hs : Sh σ) (h : F_X12_isSmall x0 σ = some (v, σ')) : W_X12_isSmall_0 X l D x0 σ (some (.int v)) σ' := by
  unfold F_X12_isSmall at h
  unfold W_X12_isSmall_0
  refine ite_i (fun c1 => ?_) (fun c1 => ?_)
  · replace h := of_ifp h c1
    exact ret_i h
  · replace h := of_ifn h c1
    refine ite_i (fun c2 => ?_) (fun c2 => ?_)
    · replace h := of_ifp h c2
      exact ret_i h
    · replace h := of_ifn h c2
      exact ret_i h
theorem f_X12_isSmall {X : Sx} {l : Launch} {x0 : Int32} {σ : AH} {v : Int32} {σ' : AH} (hs : Sh σ) (h : F_X12_isSmall x0 σ = some (v, σ')) : Call X l m_X12_isSmall 0 [.int x0] σ (some (.int v)) σ' :=
  Call.ofE ok_X12_isSmall rfl (Nat.le_of_ble_eq_true rfl) (w_X12_isSmall_0 hs  (t_X12_isSmall_0 (Nat.le_refl _) hs  h))
def F_X12_isDigit (x0 : Int32) (σ : AH) : Option (Int32 × AH) := (if x0 < (48 : Int32) then (some ((0 : Int32), σ)) else (if (57 : Int32) < x0 then (some ((0 : Int32), σ)) else (some ((1 : Int32), σ))))
set_option maxRecDepth 100000 in
theorem t_X12_isDigit_0 {X : Sx} {l : Launch} {D : Nat} {x0 : Int32} {σ : AH} {v : Int32} {σ' : AH} (hD : 0 ≤ D) (hs : Sh σ) (h : F_X12_isDigit x0 σ = some (v, σ')) : W_X12_isDigit_0 X l D x0 σ (some (.int v)) σ' := by
  unfold F_X12_isDigit at h
  unfold W_X12_isDigit_0
  refine ite_i (fun c1 => ?_) (fun c1 => ?_)
  · replace h := of_ifp h c1
    exact ret_i h
  · replace h := of_ifn h c1
    refine ite_i (fun c2 => ?_) (fun c2 => ?_)
    · replace h := of_ifp h c2
      exact ret_i h
    · replace h := of_ifn h c2
      exact ret_i h
theorem f_X12_isDigit {X : Sx} {l : Launch} {x0 : Int32} {σ : AH} {v : Int32} {σ' : AH} (hs : Sh σ) (h : F_X12_isDigit x0 σ = some (v, σ')) : Call X l m_X12_isDigit 0 [.int x0] σ (some (.int v)) σ' :=
  Call.ofE ok_X12_isDigit rfl (Nat.le_of_ble_eq_true rfl) (w_X12_isDigit_0 hs  (t_X12_isDigit_0 (Nat.le_refl _) hs  h))
def F_X12_next_319 (k_X12_next_243 : AH → Option AH) (y0 : Int64) (σ : AH) : Option AH := (k_X12_next_243 (sI (sL σ 124 10 y0) 124 8 ((gI (sL σ 124 10 y0) 124 8) + (1 : Int32))))
def B_X12_next_243 (k_X12_next_243 : AH → Option AH) (σ : AH) : Option AH := (if (gI σ 124 9) = (2 : Int32) then (if (gI σ 124 6) ≤ (gI σ 124 8) then (some σ) else (if inB (gI σ 124 8) 400 = true then (bd (F_X12_isDigit (gI σ 128 (gI σ 124 8).toNatClampNeg) σ) fun v34 σ30 => (if v34 = 0 then (some σ30) else (if (gL σ30 124 10) ≤ (100000 : Int64) then (if inB (gI σ30 124 8) 400 = true then (F_X12_next_319 k_X12_next_243 ((((gL σ30 124 10) * (10 : Int64)) + ((gI σ30 128 (gI σ30 124 8).toNatClampNeg)).toInt64) - (48 : Int64)) σ30) else none) else (F_X12_next_319 k_X12_next_243 (gL σ30 124 10) σ30)))) else none)) else (some σ))
def F_X12_next_243 : Nat → AH → Option AH := fun k => match k with | 0 => fun  _ => none | k + 1 => B_X12_next_243 (F_X12_next_243 k)
def F_X12_next_227 (k_X12_next_149 : AH → Option AH) (y0 : Int64) (σ : AH) : Option AH := (k_X12_next_149 (sI (sL σ 124 10 y0) 124 8 ((gI (sL σ 124 10 y0) 124 8) + (1 : Int32))))
def B_X12_next_149 (k_X12_next_149 : AH → Option AH) (σ : AH) : Option AH := (if (gI σ 124 9) = (1 : Int32) then (if (gI σ 124 6) ≤ (gI σ 124 8) then (F_X12_next_243 BIG σ) else (if inB (gI σ 124 8) 400 = true then (bd (F_X12_isSmall (gI σ 128 (gI σ 124 8).toNatClampNeg) σ) fun v26 σ22 => (if v26 = 0 then (F_X12_next_243 BIG σ22) else (if (10 : Int32) ≤ ((gI σ22 124 8) - (gI σ22 124 7)) then (F_X12_next_227 k_X12_next_149 (-1 : Int64) σ22) else (if inB (gI σ22 124 8) 400 = true then (F_X12_next_227 k_X12_next_149 ((((gL σ22 124 10) * (32 : Int64)) + ((gI σ22 128 (gI σ22 124 8).toNatClampNeg)).toInt64) - (96 : Int64)) σ22) else none)))) else none)) else (F_X12_next_243 BIG σ))
def F_X12_next_149 : Nat → AH → Option AH := fun k => match k with | 0 => fun  _ => none | k + 1 => B_X12_next_149 (F_X12_next_149 k)
def F_X12_next_114 (y0 : Int32) (σ : AH) : Option AH := (if (gI (sI σ 124 9 y0) 124 9) = (3 : Int32) then (if inB (gI (sI σ 124 9 y0) 124 7) 400 = true then (lt (sI (sL (sI σ 124 9 y0) 124 10 (((gI (sI σ 124 9 y0) 128 (gI (sI σ 124 9 y0) 124 7).toNatClampNeg)).toInt64)) 124 8 ((gI (sL (sI σ 124 9 y0) 124 10 (((gI (sI σ 124 9 y0) 128 (gI (sI σ 124 9 y0) 124 7).toNatClampNeg)).toInt64)) 124 8) + (1 : Int32))) fun τ17 => (F_X12_next_149 BIG τ17)) else none) else (F_X12_next_149 BIG (sI σ 124 9 y0)))
def F_X12_next_46 (σ : AH) : Option AH := (if (gI (sL (sI σ 124 8 (gI σ 124 7)) 124 10 (0 : Int64)) 124 7) = (gI (sL (sI σ 124 8 (gI σ 124 7)) 124 10 (0 : Int64)) 124 6) then (F_X12_next_114 (0 : Int32) (sL (sI σ 124 8 (gI σ 124 7)) 124 10 (0 : Int64))) else (if inB (gI (sL (sI σ 124 8 (gI σ 124 7)) 124 10 (0 : Int64)) 124 7) 400 = true then (bd (F_X12_isSmall (gI (sL (sI σ 124 8 (gI σ 124 7)) 124 10 (0 : Int64)) 128 (gI (sL (sI σ 124 8 (gI σ 124 7)) 124 10 (0 : Int64)) 124 7).toNatClampNeg) (sL (sI σ 124 8 (gI σ 124 7)) 124 10 (0 : Int64))) fun v8 σ4 => (if v8 = 0 then (if inB (gI σ4 124 7) 400 = true then (bd (F_X12_isDigit (gI σ4 128 (gI σ4 124 7).toNatClampNeg) σ4) fun v15 σ11 => (if v15 = 0 then (F_X12_next_114 (3 : Int32) σ11) else (F_X12_next_114 (2 : Int32) σ11))) else none) else (F_X12_next_114 (1 : Int32) σ4))) else none))
def B_X12_next_8 (k_X12_next_8 : AH → Option AH) (σ : AH) : Option AH := (if (gI σ 124 6) ≤ (gI σ 124 7) then (F_X12_next_46 σ) else (if inB (gI σ 124 7) 400 = true then (if (gI σ 128 (gI σ 124 7).toNatClampNeg) = (32 : Int32) then (k_X12_next_8 (sI σ 124 7 ((gI σ 124 7) + (1 : Int32)))) else (F_X12_next_46 σ)) else none))
def F_X12_next_8 : Nat → AH → Option AH := fun k => match k with | 0 => fun  _ => none | k + 1 => B_X12_next_8 (F_X12_next_8 k)
def F_X12_next (σ : AH) : Option AH := (F_X12_next_8 BIG (sI σ 124 7 (gI σ 124 8)))
set_option maxRecDepth 100000 in
theorem t_X12_next_319 {X : Sx} {l : Launch} {D : Nat} {k_X12_next_243 : AH → Option AH} {y0 : Int64} {σ : AH} {σ' : AH} (hD : 1 ≤ D) (hk_X12_next_243 : ∀ (σ : AH) (σ' : AH), Sh σ → k_X12_next_243 σ = some σ' → E X l m_X12_next D 243 [(0, .ref 124)] [] σ none σ') (hs : Sh σ) (h : F_X12_next_319 k_X12_next_243 y0 σ = some σ') : W_X12_next_319 X l D y0 σ none σ' := by
  unfold F_X12_next_319 at h
  unfold W_X12_next_319
  exact hk_X12_next_243  _ _ hs  h
set_option maxRecDepth 100000 in
theorem t_X12_next_243 {X : Sx} {l : Launch} {D : Nat} {k_X12_next_243 : AH → Option AH} {σ : AH} {σ' : AH} (hD : 1 ≤ D) (hk_X12_next_243 : ∀ (σ : AH) (σ' : AH), Sh σ → k_X12_next_243 σ = some σ' → E X l m_X12_next D 243 [(0, .ref 124)] [] σ none σ') (hs : Sh σ) (h : B_X12_next_243 k_X12_next_243 σ = some σ') : W_X12_next_243 X l D σ none σ' := by
  unfold B_X12_next_243 at h
  unfold W_X12_next_243
  refine ite_i (fun c1 => ?_) (fun c1 => ?_)
  · replace h := of_ifp h c1
    refine ite_i (fun c2 => ?_) (fun c2 => ?_)
    · replace h := of_ifp h c2
      exact ret_v h
    · replace h := of_ifn h c2
      obtain ⟨g3, h⟩ := of_gd h
      refine ⟨(inB_mp g3), ?_⟩
      obtain ⟨v34, σ30, q4, h⟩ := of_bd h
      have hC5 := f_X12_isDigit (σ := σ) hs  q4 (X := X) (l := l)
      have hs6 := hC5.1.2.2.2.1 hs
      refine ⟨0, v34, σ30, (Nat.le_trans (by decide) hD), hC5, ?_⟩
      refine ite_i (fun c7 => ?_) (fun c7 => ?_)
      · replace h := of_ifp h c7
        exact ret_v h
      · replace h := of_ifn h c7
        refine ite_i (fun c8 => ?_) (fun c8 => ?_)
        · replace h := of_ifp h c8
          obtain ⟨g9, h⟩ := of_gd h
          refine ⟨(inB_mp g9), ?_⟩
          exact t_X12_next_319 hD hk_X12_next_243 hs6  h
        · replace h := of_ifn h c8
          exact t_X12_next_319 hD hk_X12_next_243 hs6  h
  · replace h := of_ifn h c1
    exact ret_v h
theorem e_X12_next_243 {X : Sx} {l : Launch} {D : Nat} (hD : 1 ≤ D) : ∀ (k : Nat) (σ : AH) (σ' : AH), Sh σ → F_X12_next_243 k σ = some σ' → E X l m_X12_next D 243 [(0, .ref 124)] [] σ none σ' := by
  intro k
  induction k with
  | zero => intro σ σ' hs h; cases h
  | succ k ih =>
    intro σ σ' hs h
    exact w_X12_next_243 hs  (t_X12_next_243 hD ih hs  h)
set_option maxRecDepth 100000 in
theorem t_X12_next_227 {X : Sx} {l : Launch} {D : Nat} {k_X12_next_149 : AH → Option AH} {y0 : Int64} {σ : AH} {σ' : AH} (hD : 1 ≤ D) (hk_X12_next_149 : ∀ (σ : AH) (σ' : AH), Sh σ → k_X12_next_149 σ = some σ' → E X l m_X12_next D 149 [(0, .ref 124)] [] σ none σ') (hs : Sh σ) (h : F_X12_next_227 k_X12_next_149 y0 σ = some σ') : W_X12_next_227 X l D y0 σ none σ' := by
  unfold F_X12_next_227 at h
  unfold W_X12_next_227
  exact hk_X12_next_149  _ _ hs  h
set_option maxRecDepth 100000 in
theorem t_X12_next_149 {X : Sx} {l : Launch} {D : Nat} {k_X12_next_149 : AH → Option AH} {σ : AH} {σ' : AH} (hD : 1 ≤ D) (hk_X12_next_149 : ∀ (σ : AH) (σ' : AH), Sh σ → k_X12_next_149 σ = some σ' → E X l m_X12_next D 149 [(0, .ref 124)] [] σ none σ') (hs : Sh σ) (h : B_X12_next_149 k_X12_next_149 σ = some σ') : W_X12_next_149 X l D σ none σ' := by
  unfold B_X12_next_149 at h
  unfold W_X12_next_149
  refine ite_i (fun c1 => ?_) (fun c1 => ?_)
  · replace h := of_ifp h c1
    refine ite_i (fun c2 => ?_) (fun c2 => ?_)
    · replace h := of_ifp h c2
      exact e_X12_next_243 hD  _  _ _ hs  h
    · replace h := of_ifn h c2
      obtain ⟨g3, h⟩ := of_gd h
      refine ⟨(inB_mp g3), ?_⟩
      obtain ⟨v26, σ22, q4, h⟩ := of_bd h
      have hC5 := f_X12_isSmall (σ := σ) hs  q4 (X := X) (l := l)
      have hs6 := hC5.1.2.2.2.1 hs
      refine ⟨0, v26, σ22, (Nat.le_trans (by decide) hD), hC5, ?_⟩
      refine ite_i (fun c7 => ?_) (fun c7 => ?_)
      · replace h := of_ifp h c7
        exact e_X12_next_243 hD  _  _ _ hs6  h
      · replace h := of_ifn h c7
        refine ite_i (fun c8 => ?_) (fun c8 => ?_)
        · replace h := of_ifp h c8
          exact t_X12_next_227 hD hk_X12_next_149 hs6  h
        · replace h := of_ifn h c8
          obtain ⟨g9, h⟩ := of_gd h
          refine ⟨(inB_mp g9), ?_⟩
          exact t_X12_next_227 hD hk_X12_next_149 hs6  h
  · replace h := of_ifn h c1
    exact e_X12_next_243 hD  _  _ _ hs  h
theorem e_X12_next_149 {X : Sx} {l : Launch} {D : Nat} (hD : 1 ≤ D) : ∀ (k : Nat) (σ : AH) (σ' : AH), Sh σ → F_X12_next_149 k σ = some σ' → E X l m_X12_next D 149 [(0, .ref 124)] [] σ none σ' := by
  intro k
  induction k with
  | zero => intro σ σ' hs h; cases h
  | succ k ih =>
    intro σ σ' hs h
    exact w_X12_next_149 hs  (t_X12_next_149 hD ih hs  h)
set_option maxRecDepth 100000 in
theorem t_X12_next_114 {X : Sx} {l : Launch} {D : Nat} {y0 : Int32} {σ : AH} {σ' : AH} (hD : 1 ≤ D) (hs : Sh σ) (h : F_X12_next_114 y0 σ = some σ') : W_X12_next_114 X l D y0 σ none σ' := by
  unfold F_X12_next_114 at h
  unfold W_X12_next_114
  refine ite_i (fun c1 => ?_) (fun c1 => ?_)
  · replace h := of_ifp h c1
    obtain ⟨g2, h⟩ := of_gd h
    refine ⟨(inB_mp g2), ?_⟩
    intro τ17 e3
    replace h := of_lt h e3
    have hs4 : Sh τ17 := by rw [e3]; exact hs
    exact e_X12_next_149 hD  _  _ _ hs4  h
  · replace h := of_ifn h c1
    exact e_X12_next_149 hD  _  _ _ hs  h
set_option maxRecDepth 100000 in
theorem t_X12_next_46 {X : Sx} {l : Launch} {D : Nat} {σ : AH} {σ' : AH} (hD : 1 ≤ D) (hs : Sh σ) (h : F_X12_next_46 σ = some σ') : W_X12_next_46 X l D σ none σ' := by
  unfold F_X12_next_46 at h
  unfold W_X12_next_46
  refine ite_i (fun c1 => ?_) (fun c1 => ?_)
  · replace h := of_ifp h c1
    exact t_X12_next_114 hD  hs  h
  · replace h := of_ifn h c1
    obtain ⟨g2, h⟩ := of_gd h
    refine ⟨(inB_mp g2), ?_⟩
    obtain ⟨v8, σ4, q3, h⟩ := of_bd h
    have hC4 := f_X12_isSmall (σ := (sL (sI σ 124 8 (gI σ 124 7)) 124 10 (0 : Int64))) hs  q3 (X := X) (l := l)
    have hs5 := hC4.1.2.2.2.1 hs
    refine ⟨0, v8, σ4, (Nat.le_trans (by decide) hD), hC4, ?_⟩
    refine ite_i (fun c6 => ?_) (fun c6 => ?_)
    · replace h := of_ifp h c6
      obtain ⟨g7, h⟩ := of_gd h
      refine ⟨(inB_mp g7), ?_⟩
      obtain ⟨v15, σ11, q8, h⟩ := of_bd h
      have hC9 := f_X12_isDigit (σ := σ4) hs5  q8 (X := X) (l := l)
      have hs10 := hC9.1.2.2.2.1 hs5
      refine ⟨0, v15, σ11, (Nat.le_trans (by decide) hD), hC9, ?_⟩
      refine ite_i (fun c11 => ?_) (fun c11 => ?_)
      · replace h := of_ifp h c11
        exact t_X12_next_114 hD  hs10  h
      · replace h := of_ifn h c11
        exact t_X12_next_114 hD  hs10  h
    · replace h := of_ifn h c6
      exact t_X12_next_114 hD  hs5  h
set_option maxRecDepth 100000 in
theorem t_X12_next_8 {X : Sx} {l : Launch} {D : Nat} {k_X12_next_8 : AH → Option AH} {σ : AH} {σ' : AH} (hD : 1 ≤ D) (hk_X12_next_8 : ∀ (σ : AH) (σ' : AH), Sh σ → k_X12_next_8 σ = some σ' → E X l m_X12_next D 8 [(0, .ref 124)] [] σ none σ') (hs : Sh σ) (h : B_X12_next_8 k_X12_next_8 σ = some σ') : W_X12_next_8 X l D σ none σ' := by
  unfold B_X12_next_8 at h
  unfold W_X12_next_8
  refine ite_i (fun c1 => ?_) (fun c1 => ?_)
  · replace h := of_ifp h c1
    exact t_X12_next_46 hD  hs  h
  · replace h := of_ifn h c1
    obtain ⟨g2, h⟩ := of_gd h
    refine ⟨(inB_mp g2), ?_⟩
    refine ite_i (fun c3 => ?_) (fun c3 => ?_)
    · replace h := of_ifp h c3
      exact hk_X12_next_8  _ _ hs  h
    · replace h := of_ifn h c3
      exact t_X12_next_46 hD  hs  h
theorem e_X12_next_8 {X : Sx} {l : Launch} {D : Nat} (hD : 1 ≤ D) : ∀ (k : Nat) (σ : AH) (σ' : AH), Sh σ → F_X12_next_8 k σ = some σ' → E X l m_X12_next D 8 [(0, .ref 124)] [] σ none σ' := by
  intro k
  induction k with
  | zero => intro σ σ' hs h; cases h
  | succ k ih =>
    intro σ σ' hs h
    exact w_X12_next_8 hs  (t_X12_next_8 hD ih hs  h)
set_option maxRecDepth 100000 in
theorem t_X12_next_0 {X : Sx} {l : Launch} {D : Nat} {σ : AH} {σ' : AH} (hD : 1 ≤ D) (hs : Sh σ) (h : F_X12_next σ = some σ') : W_X12_next_0 X l D σ none σ' := by
  unfold F_X12_next at h
  unfold W_X12_next_0
  exact e_X12_next_8 hD  _  _ _ hs  h
theorem f_X12_next {X : Sx} {l : Launch} {σ : AH} {σ' : AH} (hs : Sh σ) (h : F_X12_next σ = some σ') : Call X l m_X12_next 1 [.ref 124] σ none σ' :=
  Call.ofE ok_X12_next rfl (Nat.le_of_ble_eq_true rfl) (w_X12_next_0 hs  (t_X12_next_0 (Nat.le_refl _) hs  h))
def F_X12_begin (σ : AH) : Option AH := (bv (F_X12_next (sI (sI (sI σ 124 8 (0 : Int32)) 124 12 (0 : Int32)) 124 11 (-1 : Int32))) fun σ2 => (some σ2))
set_option maxRecDepth 100000 in
theorem t_X12_begin_0 {X : Sx} {l : Launch} {D : Nat} {σ : AH} {σ' : AH} (hD : 2 ≤ D) (hs : Sh σ) (h : F_X12_begin σ = some σ') : W_X12_begin_0 X l D σ none σ' := by
  unfold F_X12_begin at h
  unfold W_X12_begin_0
  obtain ⟨σ2, q1, h⟩ := of_bv h
  have hC2 := f_X12_next (σ := (sI (sI (sI σ 124 8 (0 : Int32)) 124 12 (0 : Int32)) 124 11 (-1 : Int32))) hs  q1 (X := X) (l := l)
  have hs3 := hC2.1.2.2.2.1 hs
  refine ⟨1, σ2, (Nat.le_trans (by decide) hD), hC2, ?_⟩
  exact ret_v h
theorem f_X12_begin {X : Sx} {l : Launch} {σ : AH} {σ' : AH} (hs : Sh σ) (h : F_X12_begin σ = some σ') : Call X l m_X12_begin 2 [.ref 124] σ none σ' :=
  Call.ofE ok_X12_begin rfl (Nat.le_of_ble_eq_true rfl) (w_X12_begin_0 hs  (t_X12_begin_0 (Nat.le_refl _) hs  h))
def F_X12_isWord (x1 : Int64) (σ : AH) : Option (Int32 × AH) := (if (gI σ 124 9) = (1 : Int32) then (if (gL σ 124 10) = x1 then (some ((1 : Int32), σ)) else (some ((0 : Int32), σ))) else (some ((0 : Int32), σ)))
set_option maxRecDepth 100000 in
theorem t_X12_isWord_0 {X : Sx} {l : Launch} {D : Nat} {x1 : Int64} {σ : AH} {v : Int32} {σ' : AH} (hD : 0 ≤ D) (hs : Sh σ) (h : F_X12_isWord x1 σ = some (v, σ')) : W_X12_isWord_0 X l D x1 σ (some (.int v)) σ' := by
  unfold F_X12_isWord at h
  unfold W_X12_isWord_0
  refine ite_i (fun c1 => ?_) (fun c1 => ?_)
  · replace h := of_ifp h c1
    refine ite_i (fun c2 => ?_) (fun c2 => ?_)
    · replace h := of_ifp h c2
      exact ret_i h
    · replace h := of_ifn h c2
      exact ret_i h
  · replace h := of_ifn h c1
    exact ret_i h
theorem f_X12_isWord {X : Sx} {l : Launch} {x1 : Int64} {σ : AH} {v : Int32} {σ' : AH} (hs : Sh σ) (h : F_X12_isWord x1 σ = some (v, σ')) : Call X l m_X12_isWord 0 [.ref 124, .long x1] σ (some (.int v)) σ' :=
  Call.ofE ok_X12_isWord rfl (Nat.le_of_ble_eq_true rfl) (w_X12_isWord_0 hs  (t_X12_isWord_0 (Nat.le_refl _) hs  h))
def F_X12_isSign (x1 : Int32) (σ : AH) : Option (Int32 × AH) := (if (gI σ 124 9) = (3 : Int32) then (if (gL σ 124 10) = (x1).toInt64 then (some ((1 : Int32), σ)) else (some ((0 : Int32), σ))) else (some ((0 : Int32), σ)))
set_option maxRecDepth 100000 in
theorem t_X12_isSign_0 {X : Sx} {l : Launch} {D : Nat} {x1 : Int32} {σ : AH} {v : Int32} {σ' : AH} (hD : 0 ≤ D) (hs : Sh σ) (h : F_X12_isSign x1 σ = some (v, σ')) : W_X12_isSign_0 X l D x1 σ (some (.int v)) σ' := by
  unfold F_X12_isSign at h
  unfold W_X12_isSign_0
  refine ite_i (fun c1 => ?_) (fun c1 => ?_)
  · replace h := of_ifp h c1
    refine ite_i (fun c2 => ?_) (fun c2 => ?_)
    · replace h := of_ifp h c2
      exact ret_i h
    · replace h := of_ifn h c2
      exact ret_i h
  · replace h := of_ifn h c1
    exact ret_i h
theorem f_X12_isSign {X : Sx} {l : Launch} {x1 : Int32} {σ : AH} {v : Int32} {σ' : AH} (hs : Sh σ) (h : F_X12_isSign x1 σ = some (v, σ')) : Call X l m_X12_isSign 0 [.ref 124, .int x1] σ (some (.int v)) σ' :=
  Call.ofE ok_X12_isSign rfl (Nat.le_of_ble_eq_true rfl) (w_X12_isSign_0 hs  (t_X12_isSign_0 (Nat.le_refl _) hs  h))
def F_X12_must_24 (σ : AH) : Option AH := (if (gI σ 124 12) = 0 then (bv (F_X12_next σ) fun σ2 => (some σ2)) else (some σ))
def F_X12_must (x1 : Int32) (σ : AH) : Option AH := (if (gI σ 124 12) = 0 then (if x1 = 0 then (F_X12_must_24 (sI (sI σ 124 12 (1 : Int32)) 124 11 (gI (sI σ 124 12 (1 : Int32)) 124 7))) else (F_X12_must_24 σ)) else (F_X12_must_24 σ))
set_option maxRecDepth 100000 in
theorem t_X12_must_24 {X : Sx} {l : Launch} {D : Nat} {σ : AH} {σ' : AH} (hD : 2 ≤ D) (hs : Sh σ) (h : F_X12_must_24 σ = some σ') : W_X12_must_24 X l D σ none σ' := by
  unfold F_X12_must_24 at h
  unfold W_X12_must_24
  refine ite_i (fun c1 => ?_) (fun c1 => ?_)
  · replace h := of_ifp h c1
    obtain ⟨σ2, q2, h⟩ := of_bv h
    have hC3 := f_X12_next (σ := σ) hs  q2 (X := X) (l := l)
    have hs4 := hC3.1.2.2.2.1 hs
    refine ⟨1, σ2, (Nat.le_trans (by decide) hD), hC3, ?_⟩
    exact ret_v h
  · replace h := of_ifn h c1
    exact ret_v h
set_option maxRecDepth 100000 in
theorem t_X12_must_0 {X : Sx} {l : Launch} {D : Nat} {x1 : Int32} {σ : AH} {σ' : AH} (hD : 2 ≤ D) (hs : Sh σ) (h : F_X12_must x1 σ = some σ') : W_X12_must_0 X l D x1 σ none σ' := by
  unfold F_X12_must at h
  unfold W_X12_must_0
  refine ite_i (fun c1 => ?_) (fun c1 => ?_)
  · replace h := of_ifp h c1
    refine ite_i (fun c2 => ?_) (fun c2 => ?_)
    · replace h := of_ifp h c2
      exact t_X12_must_24 hD  hs  h
    · replace h := of_ifn h c2
      exact t_X12_must_24 hD  hs  h
  · replace h := of_ifn h c1
    exact t_X12_must_24 hD  hs  h
theorem f_X12_must {X : Sx} {l : Launch} {x1 : Int32} {σ : AH} {σ' : AH} (hs : Sh σ) (h : F_X12_must x1 σ = some σ') : Call X l m_X12_must 2 [.ref 124, .int x1] σ none σ' :=
  Call.ofE ok_X12_must rfl (Nat.le_of_ble_eq_true rfl) (w_X12_must_0 hs  (t_X12_must_0 (Nat.le_refl _) hs  h))
def F_X12_number_29 (x3 : Int32) (y0 : Int32) (σ : AH) : Option (Int32 × AH) := (bv (F_X12_must y0 σ) fun σ2 => (some (x3, σ2)))
def F_X12_number_28 (x3 : Int32) (σ : AH) : Option (Int32 × AH) := (F_X12_number_29 x3 (0 : Int32) σ)
def F_X12_number (x1 : Int64) (σ : AH) : Option (Int32 × AH) := (if (gI σ 124 9) = (2 : Int32) then (if x1 < (gL σ 124 10) then (F_X12_number_28 (((gL σ 124 10)).toInt32) σ) else (F_X12_number_29 (((gL σ 124 10)).toInt32) (1 : Int32) σ)) else (F_X12_number_28 (((gL σ 124 10)).toInt32) σ))
set_option maxRecDepth 100000 in
theorem t_X12_number_29 {X : Sx} {l : Launch} {D : Nat} {x3 : Int32} {y0 : Int32} {σ : AH} {v : Int32} {σ' : AH} (hD : 3 ≤ D) (hs : Sh σ) (h : F_X12_number_29 x3 y0 σ = some (v, σ')) : W_X12_number_29 X l D x3 y0 σ (some (.int v)) σ' := by
  unfold F_X12_number_29 at h
  unfold W_X12_number_29
  obtain ⟨σ2, q1, h⟩ := of_bv h
  have hC2 := f_X12_must (σ := σ) hs  q1 (X := X) (l := l)
  have hs3 := hC2.1.2.2.2.1 hs
  refine ⟨2, σ2, (Nat.le_trans (by decide) hD), hC2, ?_⟩
  exact ret_i h
set_option maxRecDepth 100000 in
theorem t_X12_number_28 {X : Sx} {l : Launch} {D : Nat} {x3 : Int32} {σ : AH} {v : Int32} {σ' : AH} (hD : 3 ≤ D) (hs : Sh σ) (h : F_X12_number_28 x3 σ = some (v, σ')) : W_X12_number_28 X l D x3 σ (some (.int v)) σ' := by
  unfold F_X12_number_28 at h
  unfold W_X12_number_28
  exact t_X12_number_29 hD  hs  h
set_option maxRecDepth 100000 in
theorem t_X12_number_0 {X : Sx} {l : Launch} {D : Nat} {x1 : Int64} {σ : AH} {v : Int32} {σ' : AH} (hD : 3 ≤ D) (hs : Sh σ) (h : F_X12_number x1 σ = some (v, σ')) : W_X12_number_0 X l D x1 σ (some (.int v)) σ' := by
  unfold F_X12_number at h
  unfold W_X12_number_0
  refine ite_i (fun c1 => ?_) (fun c1 => ?_)
  · replace h := of_ifp h c1
    refine ite_i (fun c2 => ?_) (fun c2 => ?_)
    · replace h := of_ifp h c2
      exact t_X12_number_28 hD  hs  h
    · replace h := of_ifn h c2
      exact t_X12_number_29 hD  hs  h
  · replace h := of_ifn h c1
    exact t_X12_number_28 hD  hs  h
theorem f_X12_number {X : Sx} {l : Launch} {x1 : Int64} {σ : AH} {v : Int32} {σ' : AH} (hs : Sh σ) (h : F_X12_number x1 σ = some (v, σ')) : Call X l m_X12_number 3 [.ref 124, .long x1] σ (some (.int v)) σ' :=
  Call.ofE ok_X12_number rfl (Nat.le_of_ble_eq_true rfl) (w_X12_number_0 hs  (t_X12_number_0 (Nat.le_refl _) hs  h))
def F_X12_fault (σ : AH) : Option (Int32 × AH) := (some ((gI (sI σ 124 0 (0 : Int32)) 124 11), (sI σ 124 0 (0 : Int32))))
set_option maxRecDepth 100000 in
theorem t_X12_fault_0 {X : Sx} {l : Launch} {D : Nat} {σ : AH} {v : Int32} {σ' : AH} (hD : 0 ≤ D) (hs : Sh σ) (h : F_X12_fault σ = some (v, σ')) : W_X12_fault_0 X l D σ (some (.int v)) σ' := by
  unfold F_X12_fault at h
  unfold W_X12_fault_0
  exact ret_i h
theorem f_X12_fault {X : Sx} {l : Launch} {σ : AH} {v : Int32} {σ' : AH} (hs : Sh σ) (h : F_X12_fault σ = some (v, σ')) : Call X l m_X12_fault 0 [.ref 124] σ (some (.int v)) σ' :=
  Call.ofE ok_X12_fault rfl (Nat.le_of_ble_eq_true rfl) (w_X12_fault_0 hs  (t_X12_fault_0 (Nat.le_refl _) hs  h))
def F_X12_emit (x1 : Int32) (x2 : Int32) (σ : AH) : Option AH := (if inB (gI σ 124 15) 400 = true then (if inB (gI (sI σ 130 ((gI σ 124 15).toNatClampNeg) x1) 124 15) 400 = true then (lt (sI (sI (sI σ 130 ((gI σ 124 15).toNatClampNeg) x1) 131 ((gI (sI σ 130 ((gI σ 124 15).toNatClampNeg) x1) 124 15).toNatClampNeg) x2) 124 15 ((gI (sI (sI σ 130 ((gI σ 124 15).toNatClampNeg) x1) 131 ((gI (sI σ 130 ((gI σ 124 15).toNatClampNeg) x1) 124 15).toNatClampNeg) x2) 124 15) + (1 : Int32))) fun τ3 => (some τ3)) else none) else none)
set_option maxRecDepth 100000 in
theorem t_X12_emit_0 {X : Sx} {l : Launch} {D : Nat} {x1 : Int32} {x2 : Int32} {σ : AH} {σ' : AH} (hD : 0 ≤ D) (hs : Sh σ) (h : F_X12_emit x1 x2 σ = some σ') : W_X12_emit_0 X l D x1 x2 σ none σ' := by
  unfold F_X12_emit at h
  unfold W_X12_emit_0
  obtain ⟨g1, h⟩ := of_gd h
  refine ⟨(inB_mp g1), ?_⟩
  obtain ⟨g2, h⟩ := of_gd h
  refine ⟨(inB_mp g2), ?_⟩
  intro τ3 e3
  replace h := of_lt h e3
  have hs4 : Sh τ3 := by rw [e3]; exact hs
  exact ret_v h
theorem f_X12_emit {X : Sx} {l : Launch} {x1 : Int32} {x2 : Int32} {σ : AH} {σ' : AH} (hs : Sh σ) (h : F_X12_emit x1 x2 σ = some σ') : Call X l m_X12_emit 0 [.ref 124, .int x1, .int x2] σ none σ' :=
  Call.ofE ok_X12_emit rfl (Nat.le_of_ble_eq_true rfl) (w_X12_emit_0 hs  (t_X12_emit_0 (Nat.le_refl _) hs  h))
def F_X12_push (x1 : Int32) (x2 : Int32) (σ : AH) : Option AH := (if inB (gI σ 124 21) 400 = true then (if inB (gI (sI σ 132 ((gI σ 124 21).toNatClampNeg) x1) 124 21) 400 = true then (lt (sI (sI (sI σ 132 ((gI σ 124 21).toNatClampNeg) x1) 133 ((gI (sI σ 132 ((gI σ 124 21).toNatClampNeg) x1) 124 21).toNatClampNeg) x2) 124 21 ((gI (sI (sI σ 132 ((gI σ 124 21).toNatClampNeg) x1) 133 ((gI (sI σ 132 ((gI σ 124 21).toNatClampNeg) x1) 124 21).toNatClampNeg) x2) 124 21) + (1 : Int32))) fun τ3 => (some τ3)) else none) else none)
set_option maxRecDepth 100000 in
theorem t_X12_push_0 {X : Sx} {l : Launch} {D : Nat} {x1 : Int32} {x2 : Int32} {σ : AH} {σ' : AH} (hD : 0 ≤ D) (hs : Sh σ) (h : F_X12_push x1 x2 σ = some σ') : W_X12_push_0 X l D x1 x2 σ none σ' := by
  unfold F_X12_push at h
  unfold W_X12_push_0
  obtain ⟨g1, h⟩ := of_gd h
  refine ⟨(inB_mp g1), ?_⟩
  obtain ⟨g2, h⟩ := of_gd h
  refine ⟨(inB_mp g2), ?_⟩
  intro τ3 e3
  replace h := of_lt h e3
  have hs4 : Sh τ3 := by rw [e3]; exact hs
  exact ret_v h
theorem f_X12_push {X : Sx} {l : Launch} {x1 : Int32} {x2 : Int32} {σ : AH} {σ' : AH} (hs : Sh σ) (h : F_X12_push x1 x2 σ = some σ') : Call X l m_X12_push 0 [.ref 124, .int x1, .int x2] σ none σ' :=
  Call.ofE ok_X12_push rfl (Nat.le_of_ble_eq_true rfl) (w_X12_push_0 hs  (t_X12_push_0 (Nat.le_refl _) hs  h))
def F_X12_binds (x0 : Int32) (σ : AH) : Option (Int32 × AH) := (if x0 < (30 : Int32) then (if x0 = (19 : Int32) then (some ((1 : Int32), σ)) else (if x0 = (18 : Int32) then (some ((2 : Int32), σ)) else (if x0 = (17 : Int32) then (some ((3 : Int32), σ)) else (if x0 < (12 : Int32) then (if x0 < (10 : Int32) then (some ((5 : Int32), σ)) else (some ((6 : Int32), σ))) else (some ((4 : Int32), σ)))))) else (some ((0 : Int32), σ)))
set_option maxRecDepth 100000 in
theorem t_X12_binds_0 {X : Sx} {l : Launch} {D : Nat} {x0 : Int32} {σ : AH} {v : Int32} {σ' : AH} (hD : 0 ≤ D) (hs : Sh σ) (h : F_X12_binds x0 σ = some (v, σ')) : W_X12_binds_0 X l D x0 σ (some (.int v)) σ' := by
  unfold F_X12_binds at h
  unfold W_X12_binds_0
  refine ite_i (fun c1 => ?_) (fun c1 => ?_)
  · replace h := of_ifp h c1
    refine ite_i (fun c2 => ?_) (fun c2 => ?_)
    · replace h := of_ifp h c2
      exact ret_i h
    · replace h := of_ifn h c2
      refine ite_i (fun c3 => ?_) (fun c3 => ?_)
      · replace h := of_ifp h c3
        exact ret_i h
      · replace h := of_ifn h c3
        refine ite_i (fun c4 => ?_) (fun c4 => ?_)
        · replace h := of_ifp h c4
          exact ret_i h
        · replace h := of_ifn h c4
          refine ite_i (fun c5 => ?_) (fun c5 => ?_)
          · replace h := of_ifp h c5
            refine ite_i (fun c6 => ?_) (fun c6 => ?_)
            · replace h := of_ifp h c6
              exact ret_i h
            · replace h := of_ifn h c6
              exact ret_i h
          · replace h := of_ifn h c5
            exact ret_i h
  · replace h := of_ifn h c1
    exact ret_i h
theorem f_X12_binds {X : Sx} {l : Launch} {x0 : Int32} {σ : AH} {v : Int32} {σ' : AH} (hs : Sh σ) (h : F_X12_binds x0 σ = some (v, σ')) : Call X l m_X12_binds 0 [.int x0] σ (some (.int v)) σ' :=
  Call.ofE ok_X12_binds rfl (Nat.le_of_ble_eq_true rfl) (w_X12_binds_0 hs  (t_X12_binds_0 (Nat.le_refl _) hs  h))
def F_X12_settle_63 (k_X12_settle_0 : Int32 → AH → Option AH) (x1 : Int32) (σ : AH) : Option AH := (if inB (gI σ 124 21) 400 = true then (if inB (gI σ 133 (gI σ 124 21).toNatClampNeg) 400 = true then (k_X12_settle_0 x1 (sI σ 131 ((gI σ 133 (gI σ 124 21).toNatClampNeg).toNatClampNeg) (gI σ 124 15))) else none) else none)
def B_X12_settle_0 (k_X12_settle_0 : Int32 → AH → Option AH) (x1 : Int32) (σ : AH) : Option AH := (if (gI σ 124 21) ≤ 0 then (some σ) else (if inB ((gI σ 124 21) - (1 : Int32)) 400 = true then (bd (F_X12_binds (gI σ 132 ((gI σ 124 21) - (1 : Int32)).toNatClampNeg) σ) fun v7 σ3 => (if v7 < x1 then (some σ3) else (if inB (gI (sI σ3 124 21 ((gI σ3 124 21) - (1 : Int32))) 124 21) 400 = true then (if (gI (sI σ3 124 21 ((gI σ3 124 21) - (1 : Int32))) 132 (gI (sI σ3 124 21 ((gI σ3 124 21) - (1 : Int32))) 124 21).toNatClampNeg) = (18 : Int32) then (F_X12_settle_63 k_X12_settle_0 x1 (sI σ3 124 21 ((gI σ3 124 21) - (1 : Int32)))) else (if inB (gI (sI σ3 124 21 ((gI σ3 124 21) - (1 : Int32))) 124 21) 400 = true then (if (gI (sI σ3 124 21 ((gI σ3 124 21) - (1 : Int32))) 132 (gI (sI σ3 124 21 ((gI σ3 124 21) - (1 : Int32))) 124 21).toNatClampNeg) = (19 : Int32) then (F_X12_settle_63 k_X12_settle_0 x1 (sI σ3 124 21 ((gI σ3 124 21) - (1 : Int32)))) else (if inB (gI (sI σ3 124 21 ((gI σ3 124 21) - (1 : Int32))) 124 21) 400 = true then (bv (F_X12_emit (gI (sI σ3 124 21 ((gI σ3 124 21) - (1 : Int32))) 132 (gI (sI σ3 124 21 ((gI σ3 124 21) - (1 : Int32))) 124 21).toNatClampNeg) (0 : Int32) (sI σ3 124 21 ((gI σ3 124 21) - (1 : Int32)))) fun σ12 => (k_X12_settle_0 x1 σ12)) else none)) else none)) else none))) else none))
def F_X12_settle_0 : Nat → Int32 → AH → Option AH := fun k => match k with | 0 => fun _ _ => none | k + 1 => B_X12_settle_0 (F_X12_settle_0 k)
def F_X12_settle (x1 : Int32) (σ : AH) : Option AH := F_X12_settle_0 BIG x1 σ
set_option maxRecDepth 100000 in
theorem t_X12_settle_63 {X : Sx} {l : Launch} {D : Nat} {k_X12_settle_0 : Int32 → AH → Option AH} {x1 : Int32} {σ : AH} {σ' : AH} (hD : 1 ≤ D) (hk_X12_settle_0 : ∀ (x1 : Int32) (σ : AH) (σ' : AH), Sh σ → k_X12_settle_0 x1 σ = some σ' → E X l m_X12_settle D 0 [(0, .ref 124), (1, .int x1)] [] σ none σ') (hs : Sh σ) (h : F_X12_settle_63 k_X12_settle_0 x1 σ = some σ') : W_X12_settle_63 X l D x1 σ none σ' := by
  unfold F_X12_settle_63 at h
  unfold W_X12_settle_63
  obtain ⟨g1, h⟩ := of_gd h
  refine ⟨(inB_mp g1), ?_⟩
  obtain ⟨g2, h⟩ := of_gd h
  refine ⟨(inB_mp g2), ?_⟩
  exact hk_X12_settle_0 _ _ _ hs  h
set_option maxRecDepth 100000 in
theorem t_X12_settle_0 {X : Sx} {l : Launch} {D : Nat} {k_X12_settle_0 : Int32 → AH → Option AH} {x1 : Int32} {σ : AH} {σ' : AH} (hD : 1 ≤ D) (hk_X12_settle_0 : ∀ (x1 : Int32) (σ : AH) (σ' : AH), Sh σ → k_X12_settle_0 x1 σ = some σ' → E X l m_X12_settle D 0 [(0, .ref 124), (1, .int x1)] [] σ none σ') (hs : Sh σ) (h : B_X12_settle_0 k_X12_settle_0 x1 σ = some σ') : W_X12_settle_0 X l D x1 σ none σ' := by
  unfold B_X12_settle_0 at h
  unfold W_X12_settle_0
  refine ite_i (fun c1 => ?_) (fun c1 => ?_)
  · replace h := of_ifp h c1
    exact ret_v h
  · replace h := of_ifn h c1
    obtain ⟨g2, h⟩ := of_gd h
    refine ⟨(inB_mp g2), ?_⟩
    obtain ⟨v7, σ3, q3, h⟩ := of_bd h
    have hC4 := f_X12_binds (σ := σ) hs  q3 (X := X) (l := l)
    have hs5 := hC4.1.2.2.2.1 hs
    refine ⟨0, v7, σ3, (Nat.le_trans (by decide) hD), hC4, ?_⟩
    refine ite_i (fun c6 => ?_) (fun c6 => ?_)
    · replace h := of_ifp h c6
      exact ret_v h
    · replace h := of_ifn h c6
      obtain ⟨g7, h⟩ := of_gd h
      refine ⟨(inB_mp g7), ?_⟩
      refine ite_i (fun c8 => ?_) (fun c8 => ?_)
      · replace h := of_ifp h c8
        exact t_X12_settle_63 hD hk_X12_settle_0 hs5  h
      · replace h := of_ifn h c8
        obtain ⟨g9, h⟩ := of_gd h
        refine ⟨(inB_mp g9), ?_⟩
        refine ite_i (fun c10 => ?_) (fun c10 => ?_)
        · replace h := of_ifp h c10
          exact t_X12_settle_63 hD hk_X12_settle_0 hs5  h
        · replace h := of_ifn h c10
          obtain ⟨g11, h⟩ := of_gd h
          refine ⟨(inB_mp g11), ?_⟩
          obtain ⟨σ12, q12, h⟩ := of_bv h
          have hC13 := f_X12_emit (σ := (sI σ3 124 21 ((gI σ3 124 21) - (1 : Int32)))) hs5  q12 (X := X) (l := l)
          have hs14 := hC13.1.2.2.2.1 hs5
          refine ⟨0, σ12, (Nat.le_trans (by decide) hD), hC13, ?_⟩
          exact hk_X12_settle_0 _ _ _ hs14  h
theorem e_X12_settle_0 {X : Sx} {l : Launch} {D : Nat} (hD : 1 ≤ D) : ∀ (k : Nat) (x1 : Int32) (σ : AH) (σ' : AH), Sh σ → F_X12_settle_0 k x1 σ = some σ' → E X l m_X12_settle D 0 [(0, .ref 124), (1, .int x1)] [] σ none σ' := by
  intro k
  induction k with
  | zero => intro x1 σ σ' hs h; cases h
  | succ k ih =>
    intro x1 σ σ' hs h
    exact w_X12_settle_0 hs  (t_X12_settle_0 hD ih hs  h)
theorem f_X12_settle {X : Sx} {l : Launch} {x1 : Int32} {σ : AH} {σ' : AH} (hs : Sh σ) (h : F_X12_settle x1 σ = some σ') : Call X l m_X12_settle 1 [.ref 124, .int x1] σ none σ' :=
  Call.ofE ok_X12_settle rfl (Nat.le_of_ble_eq_true rfl) (e_X12_settle_0 (Nat.le_refl _) BIG _ _ _ hs  h)
def F_X12_inner_33 (k_X12_inner_4 : Int32 → Int32 → AH → Option (Int32 × AH)) (x2 : Int32) (y0 : Int32) (σ : AH) : Option (Int32 × AH) := (k_X12_inner_4 y0 (x2 + 1) σ)
def B_X12_inner_4 (k_X12_inner_4 : Int32 → Int32 → AH → Option (Int32 × AH)) (x1 : Int32) (x2 : Int32) (σ : AH) : Option (Int32 × AH) := (if (gI σ 124 21) ≤ x2 then (some (x1, σ)) else (if inB x2 400 = true then (if (gI σ 132 x2.toNatClampNeg) < (30 : Int32) then (F_X12_inner_33 k_X12_inner_4 x2 x1 σ) else (if inB x2 400 = true then (F_X12_inner_33 k_X12_inner_4 x2 (gI σ 132 x2.toNatClampNeg) σ) else none)) else none))
def F_X12_inner_4 : Nat → Int32 → Int32 → AH → Option (Int32 × AH) := fun k => match k with | 0 => fun _ _ _ => none | k + 1 => B_X12_inner_4 (F_X12_inner_4 k)
def F_X12_inner (σ : AH) : Option (Int32 × AH) := (F_X12_inner_4 BIG (-1 : Int32) (0 : Int32) σ)
set_option maxRecDepth 100000 in
theorem t_X12_inner_33 {X : Sx} {l : Launch} {D : Nat} {k_X12_inner_4 : Int32 → Int32 → AH → Option (Int32 × AH)} {x2 : Int32} {y0 : Int32} {σ : AH} {v : Int32} {σ' : AH} (hD : 0 ≤ D) (hk_X12_inner_4 : ∀ (x1 : Int32) (x2 : Int32) (σ : AH) (v : Int32) (σ' : AH), Sh σ → k_X12_inner_4 x1 x2 σ = some (v, σ') → E X l m_X12_inner D 4 [(0, .ref 124), (1, .int x1), (2, .int x2)] [] σ (some (.int v)) σ') (hs : Sh σ) (h : F_X12_inner_33 k_X12_inner_4 x2 y0 σ = some (v, σ')) : W_X12_inner_33 X l D x2 y0 σ (some (.int v)) σ' := by
  unfold F_X12_inner_33 at h
  unfold W_X12_inner_33
  exact hk_X12_inner_4 _ _ _ _ _ hs  h
set_option maxRecDepth 100000 in
theorem t_X12_inner_4 {X : Sx} {l : Launch} {D : Nat} {k_X12_inner_4 : Int32 → Int32 → AH → Option (Int32 × AH)} {x1 : Int32} {x2 : Int32} {σ : AH} {v : Int32} {σ' : AH} (hD : 0 ≤ D) (hk_X12_inner_4 : ∀ (x1 : Int32) (x2 : Int32) (σ : AH) (v : Int32) (σ' : AH), Sh σ → k_X12_inner_4 x1 x2 σ = some (v, σ') → E X l m_X12_inner D 4 [(0, .ref 124), (1, .int x1), (2, .int x2)] [] σ (some (.int v)) σ') (hs : Sh σ) (h : B_X12_inner_4 k_X12_inner_4 x1 x2 σ = some (v, σ')) : W_X12_inner_4 X l D x1 x2 σ (some (.int v)) σ' := by
  unfold B_X12_inner_4 at h
  unfold W_X12_inner_4
  refine ite_i (fun c1 => ?_) (fun c1 => ?_)
  · replace h := of_ifp h c1
    exact ret_i h
  · replace h := of_ifn h c1
    obtain ⟨g2, h⟩ := of_gd h
    refine ⟨(inB_mp g2), ?_⟩
    refine ite_i (fun c3 => ?_) (fun c3 => ?_)
    · replace h := of_ifp h c3
      exact t_X12_inner_33 hD hk_X12_inner_4 hs  h
    · replace h := of_ifn h c3
      obtain ⟨g4, h⟩ := of_gd h
      refine ⟨(inB_mp g4), ?_⟩
      exact t_X12_inner_33 hD hk_X12_inner_4 hs  h
theorem e_X12_inner_4 {X : Sx} {l : Launch} {D : Nat} (hD : 0 ≤ D) : ∀ (k : Nat) (x1 : Int32) (x2 : Int32) (σ : AH) (v : Int32) (σ' : AH), Sh σ → F_X12_inner_4 k x1 x2 σ = some (v, σ') → E X l m_X12_inner D 4 [(0, .ref 124), (1, .int x1), (2, .int x2)] [] σ (some (.int v)) σ' := by
  intro k
  induction k with
  | zero => intro x1 x2 σ v σ' hs h; cases h
  | succ k ih =>
    intro x1 x2 σ v σ' hs h
    exact w_X12_inner_4 hs  (t_X12_inner_4 hD ih hs  h)
set_option maxRecDepth 100000 in
theorem t_X12_inner_0 {X : Sx} {l : Launch} {D : Nat} {σ : AH} {v : Int32} {σ' : AH} (hD : 0 ≤ D) (hs : Sh σ) (h : F_X12_inner σ = some (v, σ')) : W_X12_inner_0 X l D σ (some (.int v)) σ' := by
  unfold F_X12_inner at h
  unfold W_X12_inner_0
  exact e_X12_inner_4 hD  _ _ _ _ _ _ hs  h
theorem f_X12_inner {X : Sx} {l : Launch} {σ : AH} {v : Int32} {σ' : AH} (hs : Sh σ) (h : F_X12_inner σ = some (v, σ')) : Call X l m_X12_inner 0 [.ref 124] σ (some (.int v)) σ' :=
  Call.ofE ok_X12_inner rfl (Nat.le_of_ble_eq_true rfl) (w_X12_inner_0 hs  (t_X12_inner_0 (Nat.le_refl _) hs  h))
def F_X12_isCompared_36 (x1 : Int32) (σ : AH) : Option (Int32 × AH) := (if x1 < 0 then (some ((0 : Int32), σ)) else (if inB x1 400 = true then (bd (F_X12_in ((gI σ 132 x1.toNatClampNeg)).toInt64 (12 : Int64) (14 : Int64) σ) fun v14 σ10 => (if v14 = 0 then (some ((0 : Int32), σ10)) else (some ((1 : Int32), σ10)))) else none))
def B_X12_isCompared_7 (k_X12_isCompared_7 : Int32 → AH → Option (Int32 × AH)) (x1 : Int32) (σ : AH) : Option (Int32 × AH) := (if x1 < 0 then (F_X12_isCompared_36 x1 σ) else (if inB x1 400 = true then (bd (F_X12_in ((gI σ 132 x1.toNatClampNeg)).toInt64 (8 : Int64) (11 : Int64) σ) fun v7 σ3 => (if v7 = 0 then (F_X12_isCompared_36 x1 σ3) else (k_X12_isCompared_7 (x1 + (-1)) σ3))) else none))
def F_X12_isCompared_7 : Nat → Int32 → AH → Option (Int32 × AH) := fun k => match k with | 0 => fun _ _ => none | k + 1 => B_X12_isCompared_7 (F_X12_isCompared_7 k)
def F_X12_isCompared (σ : AH) : Option (Int32 × AH) := (F_X12_isCompared_7 BIG ((gI σ 124 21) - (1 : Int32)) σ)
set_option maxRecDepth 100000 in
theorem t_X12_isCompared_36 {X : Sx} {l : Launch} {D : Nat} {x1 : Int32} {σ : AH} {v : Int32} {σ' : AH} (hD : 1 ≤ D) (hs : Sh σ) (h : F_X12_isCompared_36 x1 σ = some (v, σ')) : W_X12_isCompared_36 X l D x1 σ (some (.int v)) σ' := by
  unfold F_X12_isCompared_36 at h
  unfold W_X12_isCompared_36
  refine ite_i (fun c1 => ?_) (fun c1 => ?_)
  · replace h := of_ifp h c1
    exact ret_i h
  · replace h := of_ifn h c1
    obtain ⟨g2, h⟩ := of_gd h
    refine ⟨(inB_mp g2), ?_⟩
    obtain ⟨v14, σ10, q3, h⟩ := of_bd h
    have hC4 := f_X12_in (σ := σ) hs  q3 (X := X) (l := l)
    have hs5 := hC4.1.2.2.2.1 hs
    refine ⟨0, v14, σ10, (Nat.le_trans (by decide) hD), hC4, ?_⟩
    refine ite_i (fun c6 => ?_) (fun c6 => ?_)
    · replace h := of_ifp h c6
      exact ret_i h
    · replace h := of_ifn h c6
      exact ret_i h
set_option maxRecDepth 100000 in
theorem t_X12_isCompared_7 {X : Sx} {l : Launch} {D : Nat} {k_X12_isCompared_7 : Int32 → AH → Option (Int32 × AH)} {x1 : Int32} {σ : AH} {v : Int32} {σ' : AH} (hD : 1 ≤ D) (hk_X12_isCompared_7 : ∀ (x1 : Int32) (σ : AH) (v : Int32) (σ' : AH), Sh σ → k_X12_isCompared_7 x1 σ = some (v, σ') → E X l m_X12_isCompared D 7 [(0, .ref 124), (1, .int x1)] [] σ (some (.int v)) σ') (hs : Sh σ) (h : B_X12_isCompared_7 k_X12_isCompared_7 x1 σ = some (v, σ')) : W_X12_isCompared_7 X l D x1 σ (some (.int v)) σ' := by
  unfold B_X12_isCompared_7 at h
  unfold W_X12_isCompared_7
  refine ite_i (fun c1 => ?_) (fun c1 => ?_)
  · replace h := of_ifp h c1
    exact t_X12_isCompared_36 hD  hs  h
  · replace h := of_ifn h c1
    obtain ⟨g2, h⟩ := of_gd h
    refine ⟨(inB_mp g2), ?_⟩
    obtain ⟨v7, σ3, q3, h⟩ := of_bd h
    have hC4 := f_X12_in (σ := σ) hs  q3 (X := X) (l := l)
    have hs5 := hC4.1.2.2.2.1 hs
    refine ⟨0, v7, σ3, (Nat.le_trans (by decide) hD), hC4, ?_⟩
    refine ite_i (fun c6 => ?_) (fun c6 => ?_)
    · replace h := of_ifp h c6
      exact t_X12_isCompared_36 hD  hs5  h
    · replace h := of_ifn h c6
      exact hk_X12_isCompared_7 _ _ _ _ hs5  h
theorem e_X12_isCompared_7 {X : Sx} {l : Launch} {D : Nat} (hD : 1 ≤ D) : ∀ (k : Nat) (x1 : Int32) (σ : AH) (v : Int32) (σ' : AH), Sh σ → F_X12_isCompared_7 k x1 σ = some (v, σ') → E X l m_X12_isCompared D 7 [(0, .ref 124), (1, .int x1)] [] σ (some (.int v)) σ' := by
  intro k
  induction k with
  | zero => intro x1 σ v σ' hs h; cases h
  | succ k ih =>
    intro x1 σ v σ' hs h
    exact w_X12_isCompared_7 hs  (t_X12_isCompared_7 hD ih hs  h)
set_option maxRecDepth 100000 in
theorem t_X12_isCompared_0 {X : Sx} {l : Launch} {D : Nat} {σ : AH} {v : Int32} {σ' : AH} (hD : 1 ≤ D) (hs : Sh σ) (h : F_X12_isCompared σ = some (v, σ')) : W_X12_isCompared_0 X l D σ (some (.int v)) σ' := by
  unfold F_X12_isCompared at h
  unfold W_X12_isCompared_0
  exact e_X12_isCompared_7 hD  _ _ _ _ _ hs  h
theorem f_X12_isCompared {X : Sx} {l : Launch} {σ : AH} {v : Int32} {σ' : AH} (hs : Sh σ) (h : F_X12_isCompared σ = some (v, σ')) : Call X l m_X12_isCompared 1 [.ref 124] σ (some (.int v)) σ' :=
  Call.ofE ok_X12_isCompared rfl (Nat.le_of_ble_eq_true rfl) (w_X12_isCompared_0 hs  (t_X12_isCompared_0 (Nat.le_refl _) hs  h))
def F_X12_partAt_30 (σ : AH) : Option (Int32 × AH) := (bd (F_X12_isWord (19381683 : Int64) σ) fun v48 σ44 => (if v48 = 0 then (bd (F_X12_isWord (17367154131 : Int64) σ44) fun v54 σ50 => (if v54 = 0 then (some ((3 : Int32), σ50)) else (some ((2 : Int32), σ50)))) else (some ((1 : Int32), σ44))))
def F_X12_partAt (σ : AH) : Option (Int32 × AH) := (bd (F_X12_isWord (19381683 : Int64) σ) fun v6 σ2 => (if v6 = 0 then (bd (F_X12_isWord (17367154131 : Int64) σ2) fun v12 σ8 => (if v12 = 0 then (bd (F_X12_isWord (111983872174 : Int64) σ8) fun v18 σ14 => (if v18 = 0 then (bd (F_X12_isWord (9612 : Int64) σ14) fun v24 σ20 => (if v24 = 0 then (bd (F_X12_isWord (773116068 : Int64) σ20) fun v30 σ26 => (if v30 = 0 then (bd (F_X12_isWord (263877 : Int64) σ26) fun v36 σ32 => (if v36 = 0 then (bd (F_X12_isWord (758955 : Int64) σ32) fun v42 σ38 => (if v42 = 0 then (some ((-1 : Int32), σ38)) else (some ((7 : Int32), σ38)))) else (some ((6 : Int32), σ32)))) else (some ((5 : Int32), σ26)))) else (some ((4 : Int32), σ20)))) else (F_X12_partAt_30 σ14))) else (F_X12_partAt_30 σ8))) else (F_X12_partAt_30 σ2)))
set_option maxRecDepth 100000 in
theorem t_X12_partAt_30 {X : Sx} {l : Launch} {D : Nat} {σ : AH} {v : Int32} {σ' : AH} (hD : 1 ≤ D) (hs : Sh σ) (h : F_X12_partAt_30 σ = some (v, σ')) : W_X12_partAt_30 X l D σ (some (.int v)) σ' := by
  unfold F_X12_partAt_30 at h
  unfold W_X12_partAt_30
  obtain ⟨v48, σ44, q1, h⟩ := of_bd h
  have hC2 := f_X12_isWord (σ := σ) hs  q1 (X := X) (l := l)
  have hs3 := hC2.1.2.2.2.1 hs
  refine ⟨0, v48, σ44, (Nat.le_trans (by decide) hD), hC2, ?_⟩
  refine ite_i (fun c4 => ?_) (fun c4 => ?_)
  · replace h := of_ifp h c4
    obtain ⟨v54, σ50, q5, h⟩ := of_bd h
    have hC6 := f_X12_isWord (σ := σ44) hs3  q5 (X := X) (l := l)
    have hs7 := hC6.1.2.2.2.1 hs3
    refine ⟨0, v54, σ50, (Nat.le_trans (by decide) hD), hC6, ?_⟩
    refine ite_i (fun c8 => ?_) (fun c8 => ?_)
    · replace h := of_ifp h c8
      exact ret_i h
    · replace h := of_ifn h c8
      exact ret_i h
  · replace h := of_ifn h c4
    exact ret_i h
set_option maxRecDepth 100000 in
theorem t_X12_partAt_0 {X : Sx} {l : Launch} {D : Nat} {σ : AH} {v : Int32} {σ' : AH} (hD : 1 ≤ D) (hs : Sh σ) (h : F_X12_partAt σ = some (v, σ')) : W_X12_partAt_0 X l D σ (some (.int v)) σ' := by
  unfold F_X12_partAt at h
  unfold W_X12_partAt_0
  obtain ⟨v6, σ2, q1, h⟩ := of_bd h
  have hC2 := f_X12_isWord (σ := σ) hs  q1 (X := X) (l := l)
  have hs3 := hC2.1.2.2.2.1 hs
  refine ⟨0, v6, σ2, (Nat.le_trans (by decide) hD), hC2, ?_⟩
  refine ite_i (fun c4 => ?_) (fun c4 => ?_)
  · replace h := of_ifp h c4
    obtain ⟨v12, σ8, q5, h⟩ := of_bd h
    have hC6 := f_X12_isWord (σ := σ2) hs3  q5 (X := X) (l := l)
    have hs7 := hC6.1.2.2.2.1 hs3
    refine ⟨0, v12, σ8, (Nat.le_trans (by decide) hD), hC6, ?_⟩
    refine ite_i (fun c8 => ?_) (fun c8 => ?_)
    · replace h := of_ifp h c8
      obtain ⟨v18, σ14, q9, h⟩ := of_bd h
      have hC10 := f_X12_isWord (σ := σ8) hs7  q9 (X := X) (l := l)
      have hs11 := hC10.1.2.2.2.1 hs7
      refine ⟨0, v18, σ14, (Nat.le_trans (by decide) hD), hC10, ?_⟩
      refine ite_i (fun c12 => ?_) (fun c12 => ?_)
      · replace h := of_ifp h c12
        obtain ⟨v24, σ20, q13, h⟩ := of_bd h
        have hC14 := f_X12_isWord (σ := σ14) hs11  q13 (X := X) (l := l)
        have hs15 := hC14.1.2.2.2.1 hs11
        refine ⟨0, v24, σ20, (Nat.le_trans (by decide) hD), hC14, ?_⟩
        refine ite_i (fun c16 => ?_) (fun c16 => ?_)
        · replace h := of_ifp h c16
          obtain ⟨v30, σ26, q17, h⟩ := of_bd h
          have hC18 := f_X12_isWord (σ := σ20) hs15  q17 (X := X) (l := l)
          have hs19 := hC18.1.2.2.2.1 hs15
          refine ⟨0, v30, σ26, (Nat.le_trans (by decide) hD), hC18, ?_⟩
          refine ite_i (fun c20 => ?_) (fun c20 => ?_)
          · replace h := of_ifp h c20
            obtain ⟨v36, σ32, q21, h⟩ := of_bd h
            have hC22 := f_X12_isWord (σ := σ26) hs19  q21 (X := X) (l := l)
            have hs23 := hC22.1.2.2.2.1 hs19
            refine ⟨0, v36, σ32, (Nat.le_trans (by decide) hD), hC22, ?_⟩
            refine ite_i (fun c24 => ?_) (fun c24 => ?_)
            · replace h := of_ifp h c24
              obtain ⟨v42, σ38, q25, h⟩ := of_bd h
              have hC26 := f_X12_isWord (σ := σ32) hs23  q25 (X := X) (l := l)
              have hs27 := hC26.1.2.2.2.1 hs23
              refine ⟨0, v42, σ38, (Nat.le_trans (by decide) hD), hC26, ?_⟩
              refine ite_i (fun c28 => ?_) (fun c28 => ?_)
              · replace h := of_ifp h c28
                exact ret_i h
              · replace h := of_ifn h c28
                exact ret_i h
            · replace h := of_ifn h c24
              exact ret_i h
          · replace h := of_ifn h c20
            exact ret_i h
        · replace h := of_ifn h c16
          exact ret_i h
      · replace h := of_ifn h c12
        exact t_X12_partAt_30 hD  hs11  h
    · replace h := of_ifn h c8
      exact t_X12_partAt_30 hD  hs7  h
  · replace h := of_ifn h c4
    exact t_X12_partAt_30 hD  hs3  h
theorem f_X12_partAt {X : Sx} {l : Launch} {σ : AH} {v : Int32} {σ' : AH} (hs : Sh σ) (h : F_X12_partAt σ = some (v, σ')) : Call X l m_X12_partAt 1 [.ref 124] σ (some (.int v)) σ' :=
  Call.ofE ok_X12_partAt rfl (Nat.le_of_ble_eq_true rfl) (w_X12_partAt_0 hs  (t_X12_partAt_0 (Nat.le_refl _) hs  h))
def F_X12_open_15 (x1 : Int32) (y0 : Int32) (σ : AH) : Option AH := (bv (F_X12_must y0 σ) fun σ2 => (if (gI σ2 124 12) = 0 then (bv (F_X12_push x1 (0 : Int32) (sI σ2 124 22 ((gI σ2 124 22) + (1 : Int32)))) fun σ7 => (some σ7)) else (some σ2)))
def F_X12_open (x1 : Int32) (σ : AH) : Option AH := (if (8 : Int32) ≤ (gI σ 124 22) then (F_X12_open_15 x1 (0 : Int32) σ) else (F_X12_open_15 x1 (1 : Int32) σ))
set_option maxRecDepth 100000 in
theorem t_X12_open_15 {X : Sx} {l : Launch} {D : Nat} {x1 : Int32} {y0 : Int32} {σ : AH} {σ' : AH} (hD : 3 ≤ D) (hs : Sh σ) (h : F_X12_open_15 x1 y0 σ = some σ') : W_X12_open_15 X l D x1 y0 σ none σ' := by
  unfold F_X12_open_15 at h
  unfold W_X12_open_15
  obtain ⟨σ2, q1, h⟩ := of_bv h
  have hC2 := f_X12_must (σ := σ) hs  q1 (X := X) (l := l)
  have hs3 := hC2.1.2.2.2.1 hs
  refine ⟨2, σ2, (Nat.le_trans (by decide) hD), hC2, ?_⟩
  refine ite_i (fun c4 => ?_) (fun c4 => ?_)
  · replace h := of_ifp h c4
    obtain ⟨σ7, q5, h⟩ := of_bv h
    have hC6 := f_X12_push (σ := (sI σ2 124 22 ((gI σ2 124 22) + (1 : Int32)))) hs3  q5 (X := X) (l := l)
    have hs7 := hC6.1.2.2.2.1 hs3
    refine ⟨0, σ7, (Nat.le_trans (by decide) hD), hC6, ?_⟩
    exact ret_v h
  · replace h := of_ifn h c4
    exact ret_v h
set_option maxRecDepth 100000 in
theorem t_X12_open_0 {X : Sx} {l : Launch} {D : Nat} {x1 : Int32} {σ : AH} {σ' : AH} (hD : 3 ≤ D) (hs : Sh σ) (h : F_X12_open x1 σ = some σ') : W_X12_open_0 X l D x1 σ none σ' := by
  unfold F_X12_open at h
  unfold W_X12_open_0
  refine ite_i (fun c1 => ?_) (fun c1 => ?_)
  · replace h := of_ifp h c1
    exact t_X12_open_15 hD  hs  h
  · replace h := of_ifn h c1
    exact t_X12_open_15 hD  hs  h
theorem f_X12_open {X : Sx} {l : Launch} {x1 : Int32} {σ : AH} {σ' : AH} (hs : Sh σ) (h : F_X12_open x1 σ = some σ') : Call X l m_X12_open 3 [.ref 124, .int x1] σ none σ' :=
  Call.ofE ok_X12_open rfl (Nat.le_of_ble_eq_true rfl) (w_X12_open_0 hs  (t_X12_open_0 (Nat.le_refl _) hs  h))
def F_X12_readPart_159 (x3 : Int32) (y0 : Int32) (σ : AH) : Option (Int32 × AH) := (bv (F_X12_emit y0 x3 σ) fun σ58 => (some ((3 : Int32), (sI σ58 124 18 ((gI σ58 124 18) + (1 : Int32))))))
def F_X12_readPart_138 (x1 : Int32) (x3 : Int32) (y0 : Int32) (σ : AH) : Option (Int32 × AH) := (bv (F_X12_must y0 σ) fun σ53 => (if (gI σ53 124 12) = 0 then (if x1 = (-1 : Int32) then (F_X12_readPart_159 x3 (0 : Int32) σ53) else (F_X12_readPart_159 x3 x1 σ53)) else (some ((3 : Int32), σ53))))
def F_X12_readPart_137 (x1 : Int32) (x3 : Int32) (σ : AH) : Option (Int32 × AH) := (F_X12_readPart_138 x1 x3 (0 : Int32) σ)
def F_X12_readPart_124 (x1 : Int32) (x3 : Int32) (σ : AH) : Option (Int32 × AH) := (if (60 : Int32) ≤ (gI σ 124 18) then (F_X12_readPart_137 x1 x3 σ) else (F_X12_readPart_138 x1 x3 (1 : Int32) σ))
def F_X12_readPart_113 (x1 : Int32) (x2 : Int32) (y0 : Int32) (σ : AH) : Option (Int32 × AH) := (if x1 = (-1 : Int32) then (if x2 = 0 then (F_X12_readPart_137 x1 y0 σ) else (F_X12_readPart_124 x1 y0 σ)) else (F_X12_readPart_124 x1 y0 σ))
def F_X12_readPart_99 (x1 : Int32) (y0 : Int32) (σ : AH) : Option (Int32 × AH) := (if y0 = 0 then (F_X12_readPart_113 x1 y0 (0 : Int32) σ) else (F_X12_readPart_113 x1 y0 (((gL σ 124 10)).toInt32) σ))
def F_X12_readPart_98 (x1 : Int32) (σ : AH) : Option (Int32 × AH) := (F_X12_readPart_99 x1 (0 : Int32) σ)
def F_X12_readPart_55 (y0 : Int32) (σ : AH) : Option (Int32 × AH) := (bv (F_X12_open y0 σ) fun σ37 => (bd (F_X12_isSign (91 : Int32) σ37) fun v46 σ42 => (bv (F_X12_must v46 σ42) fun σ48 => (some ((1 : Int32), σ48)))))
def F_X12_readPart_37 (σ : AH) : Option (Int32 × AH) := (bd (F_X12_isWord (12748404 : Int64) σ) fun v35 σ31 => (if v35 = 0 then (F_X12_readPart_55 (33 : Int32) σ31) else (F_X12_readPart_55 (32 : Int32) σ31)))
def F_X12_readPart (σ : AH) : Option (Int32 × AH) := (bd (F_X12_isSign (91 : Int32) σ) fun v6 σ2 => (if v6 = 0 then (bd (F_X12_isWord (12748404 : Int64) σ2) fun v12 σ8 => (if v12 = 0 then (bd (F_X12_isWord (441972 : Int64) σ8) fun v18 σ14 => (if v18 = 0 then (bd (F_X12_partAt σ14) fun v24 σ20 => (if (gI σ20 124 9) = (2 : Int32) then (if (10000 : Int64) < (gL σ20 124 10) then (F_X12_readPart_98 v24 σ20) else (F_X12_readPart_99 v24 (1 : Int32) σ20)) else (F_X12_readPart_98 v24 σ20))) else (F_X12_readPart_37 σ14))) else (F_X12_readPart_37 σ8))) else (bv (F_X12_open (31 : Int32) σ2) fun σ26 => (some ((1 : Int32), σ26)))))
set_option maxRecDepth 100000 in
theorem t_X12_readPart_159 {X : Sx} {l : Launch} {D : Nat} {x3 : Int32} {y0 : Int32} {σ : AH} {v : Int32} {σ' : AH} (hD : 4 ≤ D) (hs : Sh σ) (h : F_X12_readPart_159 x3 y0 σ = some (v, σ')) : W_X12_readPart_159 X l D x3 y0 σ (some (.int v)) σ' := by
  unfold F_X12_readPart_159 at h
  unfold W_X12_readPart_159
  obtain ⟨σ58, q1, h⟩ := of_bv h
  have hC2 := f_X12_emit (σ := σ) hs  q1 (X := X) (l := l)
  have hs3 := hC2.1.2.2.2.1 hs
  refine ⟨0, σ58, (Nat.le_trans (by decide) hD), hC2, ?_⟩
  exact ret_i h
set_option maxRecDepth 100000 in
theorem t_X12_readPart_138 {X : Sx} {l : Launch} {D : Nat} {x1 : Int32} {x3 : Int32} {y0 : Int32} {σ : AH} {v : Int32} {σ' : AH} (hD : 4 ≤ D) (hs : Sh σ) (h : F_X12_readPart_138 x1 x3 y0 σ = some (v, σ')) : W_X12_readPart_138 X l D x1 x3 y0 σ (some (.int v)) σ' := by
  unfold F_X12_readPart_138 at h
  unfold W_X12_readPart_138
  obtain ⟨σ53, q1, h⟩ := of_bv h
  have hC2 := f_X12_must (σ := σ) hs  q1 (X := X) (l := l)
  have hs3 := hC2.1.2.2.2.1 hs
  refine ⟨2, σ53, (Nat.le_trans (by decide) hD), hC2, ?_⟩
  refine ite_i (fun c4 => ?_) (fun c4 => ?_)
  · replace h := of_ifp h c4
    refine ite_i (fun c5 => ?_) (fun c5 => ?_)
    · replace h := of_ifp h c5
      exact t_X12_readPart_159 hD  hs3  h
    · replace h := of_ifn h c5
      exact t_X12_readPart_159 hD  hs3  h
  · replace h := of_ifn h c4
    exact ret_i h
set_option maxRecDepth 100000 in
theorem t_X12_readPart_137 {X : Sx} {l : Launch} {D : Nat} {x1 : Int32} {x3 : Int32} {σ : AH} {v : Int32} {σ' : AH} (hD : 4 ≤ D) (hs : Sh σ) (h : F_X12_readPart_137 x1 x3 σ = some (v, σ')) : W_X12_readPart_137 X l D x1 x3 σ (some (.int v)) σ' := by
  unfold F_X12_readPart_137 at h
  unfold W_X12_readPart_137
  exact t_X12_readPart_138 hD  hs  h
set_option maxRecDepth 100000 in
theorem t_X12_readPart_124 {X : Sx} {l : Launch} {D : Nat} {x1 : Int32} {x3 : Int32} {σ : AH} {v : Int32} {σ' : AH} (hD : 4 ≤ D) (hs : Sh σ) (h : F_X12_readPart_124 x1 x3 σ = some (v, σ')) : W_X12_readPart_124 X l D x1 x3 σ (some (.int v)) σ' := by
  unfold F_X12_readPart_124 at h
  unfold W_X12_readPart_124
  refine ite_i (fun c1 => ?_) (fun c1 => ?_)
  · replace h := of_ifp h c1
    exact t_X12_readPart_137 hD  hs  h
  · replace h := of_ifn h c1
    exact t_X12_readPart_138 hD  hs  h
set_option maxRecDepth 100000 in
theorem t_X12_readPart_113 {X : Sx} {l : Launch} {D : Nat} {x1 : Int32} {x2 : Int32} {y0 : Int32} {σ : AH} {v : Int32} {σ' : AH} (hD : 4 ≤ D) (hs : Sh σ) (h : F_X12_readPart_113 x1 x2 y0 σ = some (v, σ')) : W_X12_readPart_113 X l D x1 x2 y0 σ (some (.int v)) σ' := by
  unfold F_X12_readPart_113 at h
  unfold W_X12_readPart_113
  refine ite_i (fun c1 => ?_) (fun c1 => ?_)
  · replace h := of_ifp h c1
    refine ite_i (fun c2 => ?_) (fun c2 => ?_)
    · replace h := of_ifp h c2
      exact t_X12_readPart_137 hD  hs  h
    · replace h := of_ifn h c2
      exact t_X12_readPart_124 hD  hs  h
  · replace h := of_ifn h c1
    exact t_X12_readPart_124 hD  hs  h
set_option maxRecDepth 100000 in
theorem t_X12_readPart_99 {X : Sx} {l : Launch} {D : Nat} {x1 : Int32} {y0 : Int32} {σ : AH} {v : Int32} {σ' : AH} (hD : 4 ≤ D) (hs : Sh σ) (h : F_X12_readPart_99 x1 y0 σ = some (v, σ')) : W_X12_readPart_99 X l D x1 y0 σ (some (.int v)) σ' := by
  unfold F_X12_readPart_99 at h
  unfold W_X12_readPart_99
  refine ite_i (fun c1 => ?_) (fun c1 => ?_)
  · replace h := of_ifp h c1
    exact t_X12_readPart_113 hD  hs  h
  · replace h := of_ifn h c1
    exact t_X12_readPart_113 hD  hs  h
set_option maxRecDepth 100000 in
theorem t_X12_readPart_98 {X : Sx} {l : Launch} {D : Nat} {x1 : Int32} {σ : AH} {v : Int32} {σ' : AH} (hD : 4 ≤ D) (hs : Sh σ) (h : F_X12_readPart_98 x1 σ = some (v, σ')) : W_X12_readPart_98 X l D x1 σ (some (.int v)) σ' := by
  unfold F_X12_readPart_98 at h
  unfold W_X12_readPart_98
  exact t_X12_readPart_99 hD  hs  h
set_option maxRecDepth 100000 in
theorem t_X12_readPart_55 {X : Sx} {l : Launch} {D : Nat} {y0 : Int32} {σ : AH} {v : Int32} {σ' : AH} (hD : 4 ≤ D) (hs : Sh σ) (h : F_X12_readPart_55 y0 σ = some (v, σ')) : W_X12_readPart_55 X l D y0 σ (some (.int v)) σ' := by
  unfold F_X12_readPart_55 at h
  unfold W_X12_readPart_55
  obtain ⟨σ37, q1, h⟩ := of_bv h
  have hC2 := f_X12_open (σ := σ) hs  q1 (X := X) (l := l)
  have hs3 := hC2.1.2.2.2.1 hs
  refine ⟨3, σ37, (Nat.le_trans (by decide) hD), hC2, ?_⟩
  obtain ⟨v46, σ42, q4, h⟩ := of_bd h
  have hC5 := f_X12_isSign (σ := σ37) hs3  q4 (X := X) (l := l)
  have hs6 := hC5.1.2.2.2.1 hs3
  refine ⟨0, v46, σ42, (Nat.le_trans (by decide) hD), hC5, ?_⟩
  obtain ⟨σ48, q7, h⟩ := of_bv h
  have hC8 := f_X12_must (σ := σ42) hs6  q7 (X := X) (l := l)
  have hs9 := hC8.1.2.2.2.1 hs6
  refine ⟨2, σ48, (Nat.le_trans (by decide) hD), hC8, ?_⟩
  exact ret_i h
set_option maxRecDepth 100000 in
theorem t_X12_readPart_37 {X : Sx} {l : Launch} {D : Nat} {σ : AH} {v : Int32} {σ' : AH} (hD : 4 ≤ D) (hs : Sh σ) (h : F_X12_readPart_37 σ = some (v, σ')) : W_X12_readPart_37 X l D σ (some (.int v)) σ' := by
  unfold F_X12_readPart_37 at h
  unfold W_X12_readPart_37
  obtain ⟨v35, σ31, q1, h⟩ := of_bd h
  have hC2 := f_X12_isWord (σ := σ) hs  q1 (X := X) (l := l)
  have hs3 := hC2.1.2.2.2.1 hs
  refine ⟨0, v35, σ31, (Nat.le_trans (by decide) hD), hC2, ?_⟩
  refine ite_i (fun c4 => ?_) (fun c4 => ?_)
  · replace h := of_ifp h c4
    exact t_X12_readPart_55 hD  hs3  h
  · replace h := of_ifn h c4
    exact t_X12_readPart_55 hD  hs3  h
set_option maxRecDepth 100000 in
theorem t_X12_readPart_0 {X : Sx} {l : Launch} {D : Nat} {σ : AH} {v : Int32} {σ' : AH} (hD : 4 ≤ D) (hs : Sh σ) (h : F_X12_readPart σ = some (v, σ')) : W_X12_readPart_0 X l D σ (some (.int v)) σ' := by
  unfold F_X12_readPart at h
  unfold W_X12_readPart_0
  obtain ⟨v6, σ2, q1, h⟩ := of_bd h
  have hC2 := f_X12_isSign (σ := σ) hs  q1 (X := X) (l := l)
  have hs3 := hC2.1.2.2.2.1 hs
  refine ⟨0, v6, σ2, (Nat.le_trans (by decide) hD), hC2, ?_⟩
  refine ite_i (fun c4 => ?_) (fun c4 => ?_)
  · replace h := of_ifp h c4
    obtain ⟨v12, σ8, q5, h⟩ := of_bd h
    have hC6 := f_X12_isWord (σ := σ2) hs3  q5 (X := X) (l := l)
    have hs7 := hC6.1.2.2.2.1 hs3
    refine ⟨0, v12, σ8, (Nat.le_trans (by decide) hD), hC6, ?_⟩
    refine ite_i (fun c8 => ?_) (fun c8 => ?_)
    · replace h := of_ifp h c8
      obtain ⟨v18, σ14, q9, h⟩ := of_bd h
      have hC10 := f_X12_isWord (σ := σ8) hs7  q9 (X := X) (l := l)
      have hs11 := hC10.1.2.2.2.1 hs7
      refine ⟨0, v18, σ14, (Nat.le_trans (by decide) hD), hC10, ?_⟩
      refine ite_i (fun c12 => ?_) (fun c12 => ?_)
      · replace h := of_ifp h c12
        obtain ⟨v24, σ20, q13, h⟩ := of_bd h
        have hC14 := f_X12_partAt (σ := σ14) hs11  q13 (X := X) (l := l)
        have hs15 := hC14.1.2.2.2.1 hs11
        refine ⟨1, v24, σ20, (Nat.le_trans (by decide) hD), hC14, ?_⟩
        refine ite_i (fun c16 => ?_) (fun c16 => ?_)
        · replace h := of_ifp h c16
          refine ite_i (fun c17 => ?_) (fun c17 => ?_)
          · replace h := of_ifp h c17
            exact t_X12_readPart_98 hD  hs15  h
          · replace h := of_ifn h c17
            exact t_X12_readPart_99 hD  hs15  h
        · replace h := of_ifn h c16
          exact t_X12_readPart_98 hD  hs15  h
      · replace h := of_ifn h c12
        exact t_X12_readPart_37 hD  hs11  h
    · replace h := of_ifn h c8
      exact t_X12_readPart_37 hD  hs7  h
  · replace h := of_ifn h c4
    obtain ⟨σ26, q18, h⟩ := of_bv h
    have hC19 := f_X12_open (σ := σ2) hs3  q18 (X := X) (l := l)
    have hs20 := hC19.1.2.2.2.1 hs3
    refine ⟨3, σ26, (Nat.le_trans (by decide) hD), hC19, ?_⟩
    exact ret_i h
theorem f_X12_readPart {X : Sx} {l : Launch} {σ : AH} {v : Int32} {σ' : AH} (hs : Sh σ) (h : F_X12_readPart σ = some (v, σ')) : Call X l m_X12_readPart 4 [.ref 124] σ (some (.int v)) σ' :=
  Call.ofE ok_X12_readPart rfl (Nat.le_of_ble_eq_true rfl) (w_X12_readPart_0 hs  (t_X12_readPart_0 (Nat.le_refl _) hs  h))
def F_X12_readPlain (σ : AH) : Option (Int32 × AH) := (bd (F_X12_isWord (14836 : Int64) σ) fun v6 σ2 => (if v6 = 0 then (bd (F_X12_isSign (40 : Int32) σ2) fun v12 σ8 => (if v12 = 0 then (bd (F_X12_readPart σ8) fun v18 σ14 => (some (v18, σ14))) else (bv (F_X12_open (30 : Int32) σ8) fun σ20 => (some ((0 : Int32), σ20))))) else (bv (F_X12_push (17 : Int32) (0 : Int32) σ2) fun σ25 => (bv (F_X12_next σ25) fun σ30 => (some ((0 : Int32), σ30))))))
set_option maxRecDepth 100000 in
theorem t_X12_readPlain_0 {X : Sx} {l : Launch} {D : Nat} {σ : AH} {v : Int32} {σ' : AH} (hD : 5 ≤ D) (hs : Sh σ) (h : F_X12_readPlain σ = some (v, σ')) : W_X12_readPlain_0 X l D σ (some (.int v)) σ' := by
  unfold F_X12_readPlain at h
  unfold W_X12_readPlain_0
  obtain ⟨v6, σ2, q1, h⟩ := of_bd h
  have hC2 := f_X12_isWord (σ := σ) hs  q1 (X := X) (l := l)
  have hs3 := hC2.1.2.2.2.1 hs
  refine ⟨0, v6, σ2, (Nat.le_trans (by decide) hD), hC2, ?_⟩
  refine ite_i (fun c4 => ?_) (fun c4 => ?_)
  · replace h := of_ifp h c4
    obtain ⟨v12, σ8, q5, h⟩ := of_bd h
    have hC6 := f_X12_isSign (σ := σ2) hs3  q5 (X := X) (l := l)
    have hs7 := hC6.1.2.2.2.1 hs3
    refine ⟨0, v12, σ8, (Nat.le_trans (by decide) hD), hC6, ?_⟩
    refine ite_i (fun c8 => ?_) (fun c8 => ?_)
    · replace h := of_ifp h c8
      obtain ⟨v18, σ14, q9, h⟩ := of_bd h
      have hC10 := f_X12_readPart (σ := σ8) hs7  q9 (X := X) (l := l)
      have hs11 := hC10.1.2.2.2.1 hs7
      refine ⟨4, v18, σ14, (Nat.le_trans (by decide) hD), hC10, ?_⟩
      exact ret_i h
    · replace h := of_ifn h c8
      obtain ⟨σ20, q12, h⟩ := of_bv h
      have hC13 := f_X12_open (σ := σ8) hs7  q12 (X := X) (l := l)
      have hs14 := hC13.1.2.2.2.1 hs7
      refine ⟨3, σ20, (Nat.le_trans (by decide) hD), hC13, ?_⟩
      exact ret_i h
  · replace h := of_ifn h c4
    obtain ⟨σ25, q15, h⟩ := of_bv h
    have hC16 := f_X12_push (σ := σ2) hs3  q15 (X := X) (l := l)
    have hs17 := hC16.1.2.2.2.1 hs3
    refine ⟨0, σ25, (Nat.le_trans (by decide) hD), hC16, ?_⟩
    obtain ⟨σ30, q18, h⟩ := of_bv h
    have hC19 := f_X12_next (σ := σ25) hs17  q18 (X := X) (l := l)
    have hs20 := hC19.1.2.2.2.1 hs17
    refine ⟨1, σ30, (Nat.le_trans (by decide) hD), hC19, ?_⟩
    exact ret_i h
theorem f_X12_readPlain {X : Sx} {l : Launch} {σ : AH} {v : Int32} {σ' : AH} (hs : Sh σ) (h : F_X12_readPlain σ = some (v, σ')) : Call X l m_X12_readPlain 5 [.ref 124] σ (some (.int v)) σ' :=
  Call.ofE ok_X12_readPlain rfl (Nat.le_of_ble_eq_true rfl) (w_X12_readPlain_0 hs  (t_X12_readPlain_0 (Nat.le_refl _) hs  h))
def F_X12_behindBracket_105 (y0 : Int32) (σ : AH) : Option (Int32 × AH) := (bv (F_X12_emit y0 (0 : Int32) σ) fun σ23 => (some ((3 : Int32), σ23)))
def F_X12_behindBracket_31 (x1 : Int32) (x2 : Int32) (y0 : Int32) (σ : AH) : Option (Int32 × AH) := (bd (F_X12_isSign y0 σ) fun v6 σ2 => (bv (F_X12_must v6 σ2) fun σ8 => (if (gI σ8 124 12) = 0 then (bv (F_X12_settle (5 : Int32) σ8) fun σ13 => (if x2 = 0 then (if x1 = (31 : Int32) then (some ((3 : Int32), (sI (sI σ13 124 21 ((gI σ13 124 21) - (1 : Int32))) 124 22 ((gI (sI σ13 124 21 ((gI σ13 124 21) - (1 : Int32))) 124 22) - (1 : Int32))))) else (if x1 = (34 : Int32) then (F_X12_behindBracket_105 (15 : Int32) (sI (sI σ13 124 21 ((gI σ13 124 21) - (1 : Int32))) 124 22 ((gI (sI σ13 124 21 ((gI σ13 124 21) - (1 : Int32))) 124 22) - (1 : Int32)))) else (F_X12_behindBracket_105 (16 : Int32) (sI (sI σ13 124 21 ((gI σ13 124 21) - (1 : Int32))) 124 22 ((gI (sI σ13 124 21 ((gI σ13 124 21) - (1 : Int32))) 124 22) - (1 : Int32)))))) else (bv (F_X12_push (x1 + (2 : Int32)) (0 : Int32) (sI σ13 124 21 ((gI σ13 124 21) - (1 : Int32)))) fun σ18 => (some ((1 : Int32), σ18))))) else (some ((4 : Int32), σ8)))))
def F_X12_behindBracket_17 (x1 : Int32) (y0 : Int32) (σ : AH) : Option (Int32 × AH) := (if y0 = 0 then (F_X12_behindBracket_31 x1 y0 (93 : Int32) σ) else (F_X12_behindBracket_31 x1 y0 (44 : Int32) σ))
def F_X12_behindBracket_12 (x1 : Int32) (σ : AH) : Option (Int32 × AH) := (F_X12_behindBracket_17 x1 (1 : Int32) σ)
def F_X12_behindBracket (x1 : Int32) (σ : AH) : Option (Int32 × AH) := (if x1 = (32 : Int32) then (F_X12_behindBracket_12 x1 σ) else (if x1 = (33 : Int32) then (F_X12_behindBracket_12 x1 σ) else (F_X12_behindBracket_17 x1 (0 : Int32) σ)))
set_option maxRecDepth 100000 in
theorem t_X12_behindBracket_105 {X : Sx} {l : Launch} {D : Nat} {y0 : Int32} {σ : AH} {v : Int32} {σ' : AH} (hD : 3 ≤ D) (hs : Sh σ) (h : F_X12_behindBracket_105 y0 σ = some (v, σ')) : W_X12_behindBracket_105 X l D y0 σ (some (.int v)) σ' := by
  unfold F_X12_behindBracket_105 at h
  unfold W_X12_behindBracket_105
  obtain ⟨σ23, q1, h⟩ := of_bv h
  have hC2 := f_X12_emit (σ := σ) hs  q1 (X := X) (l := l)
  have hs3 := hC2.1.2.2.2.1 hs
  refine ⟨0, σ23, (Nat.le_trans (by decide) hD), hC2, ?_⟩
  exact ret_i h
set_option maxRecDepth 100000 in
theorem t_X12_behindBracket_31 {X : Sx} {l : Launch} {D : Nat} {x1 : Int32} {x2 : Int32} {y0 : Int32} {σ : AH} {v : Int32} {σ' : AH} (hD : 3 ≤ D) (hs : Sh σ) (h : F_X12_behindBracket_31 x1 x2 y0 σ = some (v, σ')) : W_X12_behindBracket_31 X l D x1 x2 y0 σ (some (.int v)) σ' := by
  unfold F_X12_behindBracket_31 at h
  unfold W_X12_behindBracket_31
  obtain ⟨v6, σ2, q1, h⟩ := of_bd h
  have hC2 := f_X12_isSign (σ := σ) hs  q1 (X := X) (l := l)
  have hs3 := hC2.1.2.2.2.1 hs
  refine ⟨0, v6, σ2, (Nat.le_trans (by decide) hD), hC2, ?_⟩
  obtain ⟨σ8, q4, h⟩ := of_bv h
  have hC5 := f_X12_must (σ := σ2) hs3  q4 (X := X) (l := l)
  have hs6 := hC5.1.2.2.2.1 hs3
  refine ⟨2, σ8, (Nat.le_trans (by decide) hD), hC5, ?_⟩
  refine ite_i (fun c7 => ?_) (fun c7 => ?_)
  · replace h := of_ifp h c7
    obtain ⟨σ13, q8, h⟩ := of_bv h
    have hC9 := f_X12_settle (σ := σ8) hs6  q8 (X := X) (l := l)
    have hs10 := hC9.1.2.2.2.1 hs6
    refine ⟨1, σ13, (Nat.le_trans (by decide) hD), hC9, ?_⟩
    refine ite_i (fun c11 => ?_) (fun c11 => ?_)
    · replace h := of_ifp h c11
      refine ite_i (fun c12 => ?_) (fun c12 => ?_)
      · replace h := of_ifp h c12
        exact ret_i h
      · replace h := of_ifn h c12
        refine ite_i (fun c13 => ?_) (fun c13 => ?_)
        · replace h := of_ifp h c13
          exact t_X12_behindBracket_105 hD  hs10  h
        · replace h := of_ifn h c13
          exact t_X12_behindBracket_105 hD  hs10  h
    · replace h := of_ifn h c11
      obtain ⟨σ18, q14, h⟩ := of_bv h
      have hC15 := f_X12_push (σ := (sI σ13 124 21 ((gI σ13 124 21) - (1 : Int32)))) hs10  q14 (X := X) (l := l)
      have hs16 := hC15.1.2.2.2.1 hs10
      refine ⟨0, σ18, (Nat.le_trans (by decide) hD), hC15, ?_⟩
      exact ret_i h
  · replace h := of_ifn h c7
    exact ret_i h
set_option maxRecDepth 100000 in
theorem t_X12_behindBracket_17 {X : Sx} {l : Launch} {D : Nat} {x1 : Int32} {y0 : Int32} {σ : AH} {v : Int32} {σ' : AH} (hD : 3 ≤ D) (hs : Sh σ) (h : F_X12_behindBracket_17 x1 y0 σ = some (v, σ')) : W_X12_behindBracket_17 X l D x1 y0 σ (some (.int v)) σ' := by
  unfold F_X12_behindBracket_17 at h
  unfold W_X12_behindBracket_17
  refine ite_i (fun c1 => ?_) (fun c1 => ?_)
  · replace h := of_ifp h c1
    exact t_X12_behindBracket_31 hD  hs  h
  · replace h := of_ifn h c1
    exact t_X12_behindBracket_31 hD  hs  h
set_option maxRecDepth 100000 in
theorem t_X12_behindBracket_12 {X : Sx} {l : Launch} {D : Nat} {x1 : Int32} {σ : AH} {v : Int32} {σ' : AH} (hD : 3 ≤ D) (hs : Sh σ) (h : F_X12_behindBracket_12 x1 σ = some (v, σ')) : W_X12_behindBracket_12 X l D x1 σ (some (.int v)) σ' := by
  unfold F_X12_behindBracket_12 at h
  unfold W_X12_behindBracket_12
  exact t_X12_behindBracket_17 hD  hs  h
set_option maxRecDepth 100000 in
theorem t_X12_behindBracket_0 {X : Sx} {l : Launch} {D : Nat} {x1 : Int32} {σ : AH} {v : Int32} {σ' : AH} (hD : 3 ≤ D) (hs : Sh σ) (h : F_X12_behindBracket x1 σ = some (v, σ')) : W_X12_behindBracket_0 X l D x1 σ (some (.int v)) σ' := by
  unfold F_X12_behindBracket at h
  unfold W_X12_behindBracket_0
  refine ite_i (fun c1 => ?_) (fun c1 => ?_)
  · replace h := of_ifp h c1
    exact t_X12_behindBracket_12 hD  hs  h
  · replace h := of_ifn h c1
    refine ite_i (fun c2 => ?_) (fun c2 => ?_)
    · replace h := of_ifp h c2
      exact t_X12_behindBracket_12 hD  hs  h
    · replace h := of_ifn h c2
      exact t_X12_behindBracket_17 hD  hs  h
theorem f_X12_behindBracket {X : Sx} {l : Launch} {x1 : Int32} {σ : AH} {v : Int32} {σ' : AH} (hs : Sh σ) (h : F_X12_behindBracket x1 σ = some (v, σ')) : Call X l m_X12_behindBracket 3 [.ref 124, .int x1] σ (some (.int v)) σ' :=
  Call.ofE ok_X12_behindBracket rfl (Nat.le_of_ble_eq_true rfl) (w_X12_behindBracket_0 hs  (t_X12_behindBracket_0 (Nat.le_refl _) hs  h))
def F_X12_behindSum_172 (x2 : Int32) (y0 : Int32) (σ : AH) : Option (Int32 × AH) := (bv (F_X12_must y0 σ) fun σ83 => (if (gI σ83 124 12) = 0 then (bv (F_X12_settle (5 : Int32) σ83) fun σ88 => (bv (F_X12_push x2 (0 : Int32) σ88) fun σ93 => (some ((1 : Int32), σ93)))) else (some ((1 : Int32), σ83))))
def F_X12_behindSum_167 (x2 : Int32) (σ : AH) : Option (Int32 × AH) := (F_X12_behindSum_172 x2 (1 : Int32) σ)
def F_X12_behindSum_150 (y0 : Int32) (σ : AH) : Option (Int32 × AH) := (if y0 = (14 : Int32) then (bd (F_X12_isSign (61 : Int32) σ) fun v81 σ77 => (if v81 = 0 then (F_X12_behindSum_172 y0 (0 : Int32) σ77) else (F_X12_behindSum_167 y0 σ77))) else (F_X12_behindSum_167 y0 σ))
def F_X12_behindSum_111 (σ : AH) : Option (Int32 × AH) := (bd (F_X12_isCompared σ) fun v63 σ59 => (if v63 = 0 then (bd (F_X12_isSign (60 : Int32) σ59) fun v69 σ65 => (if v69 = 0 then (bd (F_X12_isSign (62 : Int32) σ65) fun v75 σ71 => (if v75 = 0 then (F_X12_behindSum_150 (14 : Int32) σ71) else (F_X12_behindSum_150 (13 : Int32) σ71))) else (F_X12_behindSum_150 (12 : Int32) σ65))) else (some ((2 : Int32), σ59))))
def F_X12_behindSum_57 (x1 : Int32) (y0 : Int32) (σ : AH) : Option (Int32 × AH) := (if y0 = (-1 : Int32) then (bd (F_X12_inner σ) fun v30 σ26 => (if v30 ≤ (30 : Int32) then (if v30 = (-1 : Int32) then (if x1 = 0 then (some ((4 : Int32), σ26)) else (F_X12_behindSum_111 σ26)) else (F_X12_behindSum_111 σ26)) else (bd (F_X12_behindBracket v30 σ26) fun v36 σ32 => (some (v36, σ32))))) else (bd (F_X12_binds y0 σ) fun v42 σ38 => (bv (F_X12_settle v42 σ38) fun σ44 => (bv (F_X12_push y0 (0 : Int32) σ44) fun σ49 => (bv (F_X12_next σ49) fun σ54 => (some ((1 : Int32), σ54)))))))
def F_X12_behindSum (x1 : Int32) (σ : AH) : Option (Int32 × AH) := (bd (F_X12_isSign (43 : Int32) σ) fun v6 σ2 => (if v6 = 0 then (bd (F_X12_isSign (45 : Int32) σ2) fun v12 σ8 => (if v12 = 0 then (bd (F_X12_isSign (42 : Int32) σ8) fun v18 σ14 => (if v18 = 0 then (bd (F_X12_isSign (47 : Int32) σ14) fun v24 σ20 => (if v24 = 0 then (F_X12_behindSum_57 x1 (-1 : Int32) σ20) else (F_X12_behindSum_57 x1 (11 : Int32) σ20))) else (F_X12_behindSum_57 x1 (10 : Int32) σ14))) else (F_X12_behindSum_57 x1 (9 : Int32) σ8))) else (F_X12_behindSum_57 x1 (8 : Int32) σ2)))
set_option maxRecDepth 100000 in
theorem t_X12_behindSum_172 {X : Sx} {l : Launch} {D : Nat} {x2 : Int32} {y0 : Int32} {σ : AH} {v : Int32} {σ' : AH} (hD : 4 ≤ D) (hs : Sh σ) (h : F_X12_behindSum_172 x2 y0 σ = some (v, σ')) : W_X12_behindSum_172 X l D x2 y0 σ (some (.int v)) σ' := by
  unfold F_X12_behindSum_172 at h
  unfold W_X12_behindSum_172
  obtain ⟨σ83, q1, h⟩ := of_bv h
  have hC2 := f_X12_must (σ := σ) hs  q1 (X := X) (l := l)
  have hs3 := hC2.1.2.2.2.1 hs
  refine ⟨2, σ83, (Nat.le_trans (by decide) hD), hC2, ?_⟩
  refine ite_i (fun c4 => ?_) (fun c4 => ?_)
  · replace h := of_ifp h c4
    obtain ⟨σ88, q5, h⟩ := of_bv h
    have hC6 := f_X12_settle (σ := σ83) hs3  q5 (X := X) (l := l)
    have hs7 := hC6.1.2.2.2.1 hs3
    refine ⟨1, σ88, (Nat.le_trans (by decide) hD), hC6, ?_⟩
    obtain ⟨σ93, q8, h⟩ := of_bv h
    have hC9 := f_X12_push (σ := σ88) hs7  q8 (X := X) (l := l)
    have hs10 := hC9.1.2.2.2.1 hs7
    refine ⟨0, σ93, (Nat.le_trans (by decide) hD), hC9, ?_⟩
    exact ret_i h
  · replace h := of_ifn h c4
    exact ret_i h
set_option maxRecDepth 100000 in
theorem t_X12_behindSum_167 {X : Sx} {l : Launch} {D : Nat} {x2 : Int32} {σ : AH} {v : Int32} {σ' : AH} (hD : 4 ≤ D) (hs : Sh σ) (h : F_X12_behindSum_167 x2 σ = some (v, σ')) : W_X12_behindSum_167 X l D x2 σ (some (.int v)) σ' := by
  unfold F_X12_behindSum_167 at h
  unfold W_X12_behindSum_167
  exact t_X12_behindSum_172 hD  hs  h
set_option maxRecDepth 100000 in
theorem t_X12_behindSum_150 {X : Sx} {l : Launch} {D : Nat} {y0 : Int32} {σ : AH} {v : Int32} {σ' : AH} (hD : 4 ≤ D) (hs : Sh σ) (h : F_X12_behindSum_150 y0 σ = some (v, σ')) : W_X12_behindSum_150 X l D y0 σ (some (.int v)) σ' := by
  unfold F_X12_behindSum_150 at h
  unfold W_X12_behindSum_150
  refine ite_i (fun c1 => ?_) (fun c1 => ?_)
  · replace h := of_ifp h c1
    obtain ⟨v81, σ77, q2, h⟩ := of_bd h
    have hC3 := f_X12_isSign (σ := σ) hs  q2 (X := X) (l := l)
    have hs4 := hC3.1.2.2.2.1 hs
    refine ⟨0, v81, σ77, (Nat.le_trans (by decide) hD), hC3, ?_⟩
    refine ite_i (fun c5 => ?_) (fun c5 => ?_)
    · replace h := of_ifp h c5
      exact t_X12_behindSum_172 hD  hs4  h
    · replace h := of_ifn h c5
      exact t_X12_behindSum_167 hD  hs4  h
  · replace h := of_ifn h c1
    exact t_X12_behindSum_167 hD  hs  h
set_option maxRecDepth 100000 in
theorem t_X12_behindSum_111 {X : Sx} {l : Launch} {D : Nat} {σ : AH} {v : Int32} {σ' : AH} (hD : 4 ≤ D) (hs : Sh σ) (h : F_X12_behindSum_111 σ = some (v, σ')) : W_X12_behindSum_111 X l D σ (some (.int v)) σ' := by
  unfold F_X12_behindSum_111 at h
  unfold W_X12_behindSum_111
  obtain ⟨v63, σ59, q1, h⟩ := of_bd h
  have hC2 := f_X12_isCompared (σ := σ) hs  q1 (X := X) (l := l)
  have hs3 := hC2.1.2.2.2.1 hs
  refine ⟨1, v63, σ59, (Nat.le_trans (by decide) hD), hC2, ?_⟩
  refine ite_i (fun c4 => ?_) (fun c4 => ?_)
  · replace h := of_ifp h c4
    obtain ⟨v69, σ65, q5, h⟩ := of_bd h
    have hC6 := f_X12_isSign (σ := σ59) hs3  q5 (X := X) (l := l)
    have hs7 := hC6.1.2.2.2.1 hs3
    refine ⟨0, v69, σ65, (Nat.le_trans (by decide) hD), hC6, ?_⟩
    refine ite_i (fun c8 => ?_) (fun c8 => ?_)
    · replace h := of_ifp h c8
      obtain ⟨v75, σ71, q9, h⟩ := of_bd h
      have hC10 := f_X12_isSign (σ := σ65) hs7  q9 (X := X) (l := l)
      have hs11 := hC10.1.2.2.2.1 hs7
      refine ⟨0, v75, σ71, (Nat.le_trans (by decide) hD), hC10, ?_⟩
      refine ite_i (fun c12 => ?_) (fun c12 => ?_)
      · replace h := of_ifp h c12
        exact t_X12_behindSum_150 hD  hs11  h
      · replace h := of_ifn h c12
        exact t_X12_behindSum_150 hD  hs11  h
    · replace h := of_ifn h c8
      exact t_X12_behindSum_150 hD  hs7  h
  · replace h := of_ifn h c4
    exact ret_i h
set_option maxRecDepth 100000 in
theorem t_X12_behindSum_57 {X : Sx} {l : Launch} {D : Nat} {x1 : Int32} {y0 : Int32} {σ : AH} {v : Int32} {σ' : AH} (hD : 4 ≤ D) (hs : Sh σ) (h : F_X12_behindSum_57 x1 y0 σ = some (v, σ')) : W_X12_behindSum_57 X l D x1 y0 σ (some (.int v)) σ' := by
  unfold F_X12_behindSum_57 at h
  unfold W_X12_behindSum_57
  refine ite_i (fun c1 => ?_) (fun c1 => ?_)
  · replace h := of_ifp h c1
    obtain ⟨v30, σ26, q2, h⟩ := of_bd h
    have hC3 := f_X12_inner (σ := σ) hs  q2 (X := X) (l := l)
    have hs4 := hC3.1.2.2.2.1 hs
    refine ⟨0, v30, σ26, (Nat.le_trans (by decide) hD), hC3, ?_⟩
    refine ite_i (fun c5 => ?_) (fun c5 => ?_)
    · replace h := of_ifp h c5
      refine ite_i (fun c6 => ?_) (fun c6 => ?_)
      · replace h := of_ifp h c6
        refine ite_i (fun c7 => ?_) (fun c7 => ?_)
        · replace h := of_ifp h c7
          exact ret_i h
        · replace h := of_ifn h c7
          exact t_X12_behindSum_111 hD  hs4  h
      · replace h := of_ifn h c6
        exact t_X12_behindSum_111 hD  hs4  h
    · replace h := of_ifn h c5
      obtain ⟨v36, σ32, q8, h⟩ := of_bd h
      have hC9 := f_X12_behindBracket (σ := σ26) hs4  q8 (X := X) (l := l)
      have hs10 := hC9.1.2.2.2.1 hs4
      refine ⟨3, v36, σ32, (Nat.le_trans (by decide) hD), hC9, ?_⟩
      exact ret_i h
  · replace h := of_ifn h c1
    obtain ⟨v42, σ38, q11, h⟩ := of_bd h
    have hC12 := f_X12_binds (σ := σ) hs  q11 (X := X) (l := l)
    have hs13 := hC12.1.2.2.2.1 hs
    refine ⟨0, v42, σ38, (Nat.le_trans (by decide) hD), hC12, ?_⟩
    obtain ⟨σ44, q14, h⟩ := of_bv h
    have hC15 := f_X12_settle (σ := σ38) hs13  q14 (X := X) (l := l)
    have hs16 := hC15.1.2.2.2.1 hs13
    refine ⟨1, σ44, (Nat.le_trans (by decide) hD), hC15, ?_⟩
    obtain ⟨σ49, q17, h⟩ := of_bv h
    have hC18 := f_X12_push (σ := σ44) hs16  q17 (X := X) (l := l)
    have hs19 := hC18.1.2.2.2.1 hs16
    refine ⟨0, σ49, (Nat.le_trans (by decide) hD), hC18, ?_⟩
    obtain ⟨σ54, q20, h⟩ := of_bv h
    have hC21 := f_X12_next (σ := σ49) hs19  q20 (X := X) (l := l)
    have hs22 := hC21.1.2.2.2.1 hs19
    refine ⟨1, σ54, (Nat.le_trans (by decide) hD), hC21, ?_⟩
    exact ret_i h
set_option maxRecDepth 100000 in
theorem t_X12_behindSum_0 {X : Sx} {l : Launch} {D : Nat} {x1 : Int32} {σ : AH} {v : Int32} {σ' : AH} (hD : 4 ≤ D) (hs : Sh σ) (h : F_X12_behindSum x1 σ = some (v, σ')) : W_X12_behindSum_0 X l D x1 σ (some (.int v)) σ' := by
  unfold F_X12_behindSum at h
  unfold W_X12_behindSum_0
  obtain ⟨v6, σ2, q1, h⟩ := of_bd h
  have hC2 := f_X12_isSign (σ := σ) hs  q1 (X := X) (l := l)
  have hs3 := hC2.1.2.2.2.1 hs
  refine ⟨0, v6, σ2, (Nat.le_trans (by decide) hD), hC2, ?_⟩
  refine ite_i (fun c4 => ?_) (fun c4 => ?_)
  · replace h := of_ifp h c4
    obtain ⟨v12, σ8, q5, h⟩ := of_bd h
    have hC6 := f_X12_isSign (σ := σ2) hs3  q5 (X := X) (l := l)
    have hs7 := hC6.1.2.2.2.1 hs3
    refine ⟨0, v12, σ8, (Nat.le_trans (by decide) hD), hC6, ?_⟩
    refine ite_i (fun c8 => ?_) (fun c8 => ?_)
    · replace h := of_ifp h c8
      obtain ⟨v18, σ14, q9, h⟩ := of_bd h
      have hC10 := f_X12_isSign (σ := σ8) hs7  q9 (X := X) (l := l)
      have hs11 := hC10.1.2.2.2.1 hs7
      refine ⟨0, v18, σ14, (Nat.le_trans (by decide) hD), hC10, ?_⟩
      refine ite_i (fun c12 => ?_) (fun c12 => ?_)
      · replace h := of_ifp h c12
        obtain ⟨v24, σ20, q13, h⟩ := of_bd h
        have hC14 := f_X12_isSign (σ := σ14) hs11  q13 (X := X) (l := l)
        have hs15 := hC14.1.2.2.2.1 hs11
        refine ⟨0, v24, σ20, (Nat.le_trans (by decide) hD), hC14, ?_⟩
        refine ite_i (fun c16 => ?_) (fun c16 => ?_)
        · replace h := of_ifp h c16
          exact t_X12_behindSum_57 hD  hs15  h
        · replace h := of_ifn h c16
          exact t_X12_behindSum_57 hD  hs15  h
      · replace h := of_ifn h c12
        exact t_X12_behindSum_57 hD  hs11  h
    · replace h := of_ifn h c8
      exact t_X12_behindSum_57 hD  hs7  h
  · replace h := of_ifn h c4
    exact t_X12_behindSum_57 hD  hs3  h
theorem f_X12_behindSum {X : Sx} {l : Launch} {x1 : Int32} {σ : AH} {v : Int32} {σ' : AH} (hs : Sh σ) (h : F_X12_behindSum x1 σ = some (v, σ')) : Call X l m_X12_behindSum 4 [.ref 124, .int x1] σ (some (.int v)) σ' :=
  Call.ofE ok_X12_behindSum rfl (Nat.le_of_ble_eq_true rfl) (w_X12_behindSum_0 hs  (t_X12_behindSum_0 (Nat.le_refl _) hs  h))
def F_X12_behindTest_66 (y0 : Int32) (σ : AH) : Option (Int32 × AH) := (bv (F_X12_emit y0 (0 : Int32) σ) fun σ46 => (bv (F_X12_next σ46) fun σ51 => (some ((0 : Int32), σ51))))
def F_X12_behindTest_47 (x1 : Int32) (y0 : Int32) (σ : AH) : Option (Int32 × AH) := (bv (F_X12_push y0 (gI σ 124 15) σ) fun σ41 => (if x1 = 0 then (F_X12_behindTest_66 (19 : Int32) σ41) else (F_X12_behindTest_66 (18 : Int32) σ41)))
def F_X12_behindTest_32 (x1 : Int32) (y0 : Int32) (σ : AH) : Option (Int32 × AH) := (bv (F_X12_settle y0 σ) fun σ36 => (if x1 = 0 then (F_X12_behindTest_47 x1 (19 : Int32) σ36) else (F_X12_behindTest_47 x1 (18 : Int32) σ36)))
def F_X12_behindTest_22 (x1 : Int32) (σ : AH) : Option (Int32 × AH) := (if x1 = 0 then (F_X12_behindTest_32 x1 (1 : Int32) σ) else (F_X12_behindTest_32 x1 (2 : Int32) σ))
def F_X12_behindTest (σ : AH) : Option (Int32 × AH) := (bd (F_X12_isWord (1476 : Int64) σ) fun v6 σ2 => (if v6 = 0 then (bd (F_X12_isWord (498 : Int64) σ2) fun v12 σ8 => (if v12 = 0 then (bd (F_X12_inner σ8) fun v18 σ14 => (if v18 = (-1 : Int32) then (some ((4 : Int32), σ14)) else (bd (F_X12_isSign (41 : Int32) σ14) fun v24 σ20 => (bv (F_X12_must v24 σ20) fun σ26 => (if (gI σ26 124 12) = 0 then (bv (F_X12_settle (1 : Int32) σ26) fun σ31 => (some ((2 : Int32), (sI (sI σ31 124 21 ((gI σ31 124 21) - (1 : Int32))) 124 22 ((gI (sI σ31 124 21 ((gI σ31 124 21) - (1 : Int32))) 124 22) - (1 : Int32)))))) else (some ((2 : Int32), σ26))))))) else (F_X12_behindTest_22 v6 σ8))) else (F_X12_behindTest_22 v6 σ2)))
set_option maxRecDepth 100000 in
theorem t_X12_behindTest_66 {X : Sx} {l : Launch} {D : Nat} {y0 : Int32} {σ : AH} {v : Int32} {σ' : AH} (hD : 3 ≤ D) (hs : Sh σ) (h : F_X12_behindTest_66 y0 σ = some (v, σ')) : W_X12_behindTest_66 X l D y0 σ (some (.int v)) σ' := by
  unfold F_X12_behindTest_66 at h
  unfold W_X12_behindTest_66
  obtain ⟨σ46, q1, h⟩ := of_bv h
  have hC2 := f_X12_emit (σ := σ) hs  q1 (X := X) (l := l)
  have hs3 := hC2.1.2.2.2.1 hs
  refine ⟨0, σ46, (Nat.le_trans (by decide) hD), hC2, ?_⟩
  obtain ⟨σ51, q4, h⟩ := of_bv h
  have hC5 := f_X12_next (σ := σ46) hs3  q4 (X := X) (l := l)
  have hs6 := hC5.1.2.2.2.1 hs3
  refine ⟨1, σ51, (Nat.le_trans (by decide) hD), hC5, ?_⟩
  exact ret_i h
set_option maxRecDepth 100000 in
theorem t_X12_behindTest_47 {X : Sx} {l : Launch} {D : Nat} {x1 : Int32} {y0 : Int32} {σ : AH} {v : Int32} {σ' : AH} (hD : 3 ≤ D) (hs : Sh σ) (h : F_X12_behindTest_47 x1 y0 σ = some (v, σ')) : W_X12_behindTest_47 X l D x1 y0 σ (some (.int v)) σ' := by
  unfold F_X12_behindTest_47 at h
  unfold W_X12_behindTest_47
  obtain ⟨σ41, q1, h⟩ := of_bv h
  have hC2 := f_X12_push (σ := σ) hs  q1 (X := X) (l := l)
  have hs3 := hC2.1.2.2.2.1 hs
  refine ⟨0, σ41, (Nat.le_trans (by decide) hD), hC2, ?_⟩
  refine ite_i (fun c4 => ?_) (fun c4 => ?_)
  · replace h := of_ifp h c4
    exact t_X12_behindTest_66 hD  hs3  h
  · replace h := of_ifn h c4
    exact t_X12_behindTest_66 hD  hs3  h
set_option maxRecDepth 100000 in
theorem t_X12_behindTest_32 {X : Sx} {l : Launch} {D : Nat} {x1 : Int32} {y0 : Int32} {σ : AH} {v : Int32} {σ' : AH} (hD : 3 ≤ D) (hs : Sh σ) (h : F_X12_behindTest_32 x1 y0 σ = some (v, σ')) : W_X12_behindTest_32 X l D x1 y0 σ (some (.int v)) σ' := by
  unfold F_X12_behindTest_32 at h
  unfold W_X12_behindTest_32
  obtain ⟨σ36, q1, h⟩ := of_bv h
  have hC2 := f_X12_settle (σ := σ) hs  q1 (X := X) (l := l)
  have hs3 := hC2.1.2.2.2.1 hs
  refine ⟨1, σ36, (Nat.le_trans (by decide) hD), hC2, ?_⟩
  refine ite_i (fun c4 => ?_) (fun c4 => ?_)
  · replace h := of_ifp h c4
    exact t_X12_behindTest_47 hD  hs3  h
  · replace h := of_ifn h c4
    exact t_X12_behindTest_47 hD  hs3  h
set_option maxRecDepth 100000 in
theorem t_X12_behindTest_22 {X : Sx} {l : Launch} {D : Nat} {x1 : Int32} {σ : AH} {v : Int32} {σ' : AH} (hD : 3 ≤ D) (hs : Sh σ) (h : F_X12_behindTest_22 x1 σ = some (v, σ')) : W_X12_behindTest_22 X l D x1 σ (some (.int v)) σ' := by
  unfold F_X12_behindTest_22 at h
  unfold W_X12_behindTest_22
  refine ite_i (fun c1 => ?_) (fun c1 => ?_)
  · replace h := of_ifp h c1
    exact t_X12_behindTest_32 hD  hs  h
  · replace h := of_ifn h c1
    exact t_X12_behindTest_32 hD  hs  h
set_option maxRecDepth 100000 in
theorem t_X12_behindTest_0 {X : Sx} {l : Launch} {D : Nat} {σ : AH} {v : Int32} {σ' : AH} (hD : 3 ≤ D) (hs : Sh σ) (h : F_X12_behindTest σ = some (v, σ')) : W_X12_behindTest_0 X l D σ (some (.int v)) σ' := by
  unfold F_X12_behindTest at h
  unfold W_X12_behindTest_0
  obtain ⟨v6, σ2, q1, h⟩ := of_bd h
  have hC2 := f_X12_isWord (σ := σ) hs  q1 (X := X) (l := l)
  have hs3 := hC2.1.2.2.2.1 hs
  refine ⟨0, v6, σ2, (Nat.le_trans (by decide) hD), hC2, ?_⟩
  refine ite_i (fun c4 => ?_) (fun c4 => ?_)
  · replace h := of_ifp h c4
    obtain ⟨v12, σ8, q5, h⟩ := of_bd h
    have hC6 := f_X12_isWord (σ := σ2) hs3  q5 (X := X) (l := l)
    have hs7 := hC6.1.2.2.2.1 hs3
    refine ⟨0, v12, σ8, (Nat.le_trans (by decide) hD), hC6, ?_⟩
    refine ite_i (fun c8 => ?_) (fun c8 => ?_)
    · replace h := of_ifp h c8
      obtain ⟨v18, σ14, q9, h⟩ := of_bd h
      have hC10 := f_X12_inner (σ := σ8) hs7  q9 (X := X) (l := l)
      have hs11 := hC10.1.2.2.2.1 hs7
      refine ⟨0, v18, σ14, (Nat.le_trans (by decide) hD), hC10, ?_⟩
      refine ite_i (fun c12 => ?_) (fun c12 => ?_)
      · replace h := of_ifp h c12
        exact ret_i h
      · replace h := of_ifn h c12
        obtain ⟨v24, σ20, q13, h⟩ := of_bd h
        have hC14 := f_X12_isSign (σ := σ14) hs11  q13 (X := X) (l := l)
        have hs15 := hC14.1.2.2.2.1 hs11
        refine ⟨0, v24, σ20, (Nat.le_trans (by decide) hD), hC14, ?_⟩
        obtain ⟨σ26, q16, h⟩ := of_bv h
        have hC17 := f_X12_must (σ := σ20) hs15  q16 (X := X) (l := l)
        have hs18 := hC17.1.2.2.2.1 hs15
        refine ⟨2, σ26, (Nat.le_trans (by decide) hD), hC17, ?_⟩
        refine ite_i (fun c19 => ?_) (fun c19 => ?_)
        · replace h := of_ifp h c19
          obtain ⟨σ31, q20, h⟩ := of_bv h
          have hC21 := f_X12_settle (σ := σ26) hs18  q20 (X := X) (l := l)
          have hs22 := hC21.1.2.2.2.1 hs18
          refine ⟨1, σ31, (Nat.le_trans (by decide) hD), hC21, ?_⟩
          exact ret_i h
        · replace h := of_ifn h c19
          exact ret_i h
    · replace h := of_ifn h c8
      exact t_X12_behindTest_22 hD  hs7  h
  · replace h := of_ifn h c4
    exact t_X12_behindTest_22 hD  hs3  h
theorem f_X12_behindTest {X : Sx} {l : Launch} {σ : AH} {v : Int32} {σ' : AH} (hs : Sh σ) (h : F_X12_behindTest σ = some (v, σ')) : Call X l m_X12_behindTest 3 [.ref 124] σ (some (.int v)) σ' :=
  Call.ofE ok_X12_behindTest rfl (Nat.le_of_ble_eq_true rfl) (w_X12_behindTest_0 hs  (t_X12_behindTest_0 (Nat.le_refl _) hs  h))
def F_X12_readExpression_76 (σ : AH) : Option AH := (bv (F_X12_settle (1 : Int32) σ) fun σ26 => (some σ26))
def F_X12_readExpression_72 (k_X12_readExpression_20 : Int32 → Int32 → AH → Option AH) (x1 : Int32) (y0 : Int32) (σ : AH) : Option AH := (k_X12_readExpression_20 x1 y0 σ)
def B_X12_readExpression_20 (k_X12_readExpression_20 : Int32 → Int32 → AH → Option AH) (x1 : Int32) (x2 : Int32) (σ : AH) : Option AH := (if (gI σ 124 12) = 0 then (if x2 = (4 : Int32) then (F_X12_readExpression_76 σ) else (if x2 = 0 then (bd (F_X12_readPlain σ) fun v24 σ20 => (F_X12_readExpression_72 k_X12_readExpression_20 x1 v24 σ20)) else (if x2 = (1 : Int32) then (bd (F_X12_readPart σ) fun v18 σ14 => (F_X12_readExpression_72 k_X12_readExpression_20 x1 v18 σ14)) else (if x2 = (3 : Int32) then (bd (F_X12_behindSum x1 σ) fun v12 σ8 => (F_X12_readExpression_72 k_X12_readExpression_20 x1 v12 σ8)) else (bd (F_X12_behindTest σ) fun v6 σ2 => (F_X12_readExpression_72 k_X12_readExpression_20 x1 v6 σ2)))))) else (F_X12_readExpression_76 σ))
def F_X12_readExpression_20 : Nat → Int32 → Int32 → AH → Option AH := fun k => match k with | 0 => fun _ _ _ => none | k + 1 => B_X12_readExpression_20 (F_X12_readExpression_20 k)
def F_X12_readExpression_19 (x1 : Int32) (y0 : Int32) (σ : AH) : Option AH := (F_X12_readExpression_20 BIG x1 y0 σ)
def F_X12_readExpression (x1 : Int32) (σ : AH) : Option AH := (if x1 = 0 then (F_X12_readExpression_19 x1 (1 : Int32) (sI (sI σ 124 21 (0 : Int32)) 124 22 (0 : Int32))) else (F_X12_readExpression_19 x1 (0 : Int32) (sI (sI σ 124 21 (0 : Int32)) 124 22 (0 : Int32))))
set_option maxRecDepth 100000 in
theorem t_X12_readExpression_76 {X : Sx} {l : Launch} {D : Nat} {σ : AH} {σ' : AH} (hD : 6 ≤ D) (hs : Sh σ) (h : F_X12_readExpression_76 σ = some σ') : W_X12_readExpression_76 X l D σ none σ' := by
  unfold F_X12_readExpression_76 at h
  unfold W_X12_readExpression_76
  obtain ⟨σ26, q1, h⟩ := of_bv h
  have hC2 := f_X12_settle (σ := σ) hs  q1 (X := X) (l := l)
  have hs3 := hC2.1.2.2.2.1 hs
  refine ⟨1, σ26, (Nat.le_trans (by decide) hD), hC2, ?_⟩
  exact ret_v h
set_option maxRecDepth 100000 in
theorem t_X12_readExpression_72 {X : Sx} {l : Launch} {D : Nat} {k_X12_readExpression_20 : Int32 → Int32 → AH → Option AH} {x1 : Int32} {y0 : Int32} {σ : AH} {σ' : AH} (hD : 6 ≤ D) (hk_X12_readExpression_20 : ∀ (x1 : Int32) (x2 : Int32) (σ : AH) (σ' : AH), Sh σ → k_X12_readExpression_20 x1 x2 σ = some σ' → E X l m_X12_readExpression D 20 [(0, .ref 124), (1, .int x1), (2, .int x2)] [] σ none σ') (hs : Sh σ) (h : F_X12_readExpression_72 k_X12_readExpression_20 x1 y0 σ = some σ') : W_X12_readExpression_72 X l D x1 y0 σ none σ' := by
  unfold F_X12_readExpression_72 at h
  unfold W_X12_readExpression_72
  exact hk_X12_readExpression_20 _ _ _ _ hs  h
set_option maxRecDepth 100000 in
theorem t_X12_readExpression_20 {X : Sx} {l : Launch} {D : Nat} {k_X12_readExpression_20 : Int32 → Int32 → AH → Option AH} {x1 : Int32} {x2 : Int32} {σ : AH} {σ' : AH} (hD : 6 ≤ D) (hk_X12_readExpression_20 : ∀ (x1 : Int32) (x2 : Int32) (σ : AH) (σ' : AH), Sh σ → k_X12_readExpression_20 x1 x2 σ = some σ' → E X l m_X12_readExpression D 20 [(0, .ref 124), (1, .int x1), (2, .int x2)] [] σ none σ') (hs : Sh σ) (h : B_X12_readExpression_20 k_X12_readExpression_20 x1 x2 σ = some σ') : W_X12_readExpression_20 X l D x1 x2 σ none σ' := by
  unfold B_X12_readExpression_20 at h
  unfold W_X12_readExpression_20
  refine ite_i (fun c1 => ?_) (fun c1 => ?_)
  · replace h := of_ifp h c1
    refine ite_i (fun c2 => ?_) (fun c2 => ?_)
    · replace h := of_ifp h c2
      exact t_X12_readExpression_76 hD  hs  h
    · replace h := of_ifn h c2
      refine ite_i (fun c3 => ?_) (fun c3 => ?_)
      · replace h := of_ifp h c3
        obtain ⟨v24, σ20, q4, h⟩ := of_bd h
        have hC5 := f_X12_readPlain (σ := σ) hs  q4 (X := X) (l := l)
        have hs6 := hC5.1.2.2.2.1 hs
        refine ⟨5, v24, σ20, (Nat.le_trans (by decide) hD), hC5, ?_⟩
        exact t_X12_readExpression_72 hD hk_X12_readExpression_20 hs6  h
      · replace h := of_ifn h c3
        refine ite_i (fun c7 => ?_) (fun c7 => ?_)
        · replace h := of_ifp h c7
          obtain ⟨v18, σ14, q8, h⟩ := of_bd h
          have hC9 := f_X12_readPart (σ := σ) hs  q8 (X := X) (l := l)
          have hs10 := hC9.1.2.2.2.1 hs
          refine ⟨4, v18, σ14, (Nat.le_trans (by decide) hD), hC9, ?_⟩
          exact t_X12_readExpression_72 hD hk_X12_readExpression_20 hs10  h
        · replace h := of_ifn h c7
          refine ite_i (fun c11 => ?_) (fun c11 => ?_)
          · replace h := of_ifp h c11
            obtain ⟨v12, σ8, q12, h⟩ := of_bd h
            have hC13 := f_X12_behindSum (σ := σ) hs  q12 (X := X) (l := l)
            have hs14 := hC13.1.2.2.2.1 hs
            refine ⟨4, v12, σ8, (Nat.le_trans (by decide) hD), hC13, ?_⟩
            exact t_X12_readExpression_72 hD hk_X12_readExpression_20 hs14  h
          · replace h := of_ifn h c11
            obtain ⟨v6, σ2, q15, h⟩ := of_bd h
            have hC16 := f_X12_behindTest (σ := σ) hs  q15 (X := X) (l := l)
            have hs17 := hC16.1.2.2.2.1 hs
            refine ⟨3, v6, σ2, (Nat.le_trans (by decide) hD), hC16, ?_⟩
            exact t_X12_readExpression_72 hD hk_X12_readExpression_20 hs17  h
  · replace h := of_ifn h c1
    exact t_X12_readExpression_76 hD  hs  h
theorem e_X12_readExpression_20 {X : Sx} {l : Launch} {D : Nat} (hD : 6 ≤ D) : ∀ (k : Nat) (x1 : Int32) (x2 : Int32) (σ : AH) (σ' : AH), Sh σ → F_X12_readExpression_20 k x1 x2 σ = some σ' → E X l m_X12_readExpression D 20 [(0, .ref 124), (1, .int x1), (2, .int x2)] [] σ none σ' := by
  intro k
  induction k with
  | zero => intro x1 x2 σ σ' hs h; cases h
  | succ k ih =>
    intro x1 x2 σ σ' hs h
    exact w_X12_readExpression_20 hs  (t_X12_readExpression_20 hD ih hs  h)
set_option maxRecDepth 100000 in
theorem t_X12_readExpression_19 {X : Sx} {l : Launch} {D : Nat} {x1 : Int32} {y0 : Int32} {σ : AH} {σ' : AH} (hD : 6 ≤ D) (hs : Sh σ) (h : F_X12_readExpression_19 x1 y0 σ = some σ') : W_X12_readExpression_19 X l D x1 y0 σ none σ' := by
  unfold F_X12_readExpression_19 at h
  unfold W_X12_readExpression_19
  exact e_X12_readExpression_20 hD  _ _ _ _ _ hs  h
set_option maxRecDepth 100000 in
theorem t_X12_readExpression_0 {X : Sx} {l : Launch} {D : Nat} {x1 : Int32} {σ : AH} {σ' : AH} (hD : 6 ≤ D) (hs : Sh σ) (h : F_X12_readExpression x1 σ = some σ') : W_X12_readExpression_0 X l D x1 σ none σ' := by
  unfold F_X12_readExpression at h
  unfold W_X12_readExpression_0
  refine ite_i (fun c1 => ?_) (fun c1 => ?_)
  · replace h := of_ifp h c1
    exact t_X12_readExpression_19 hD  hs  h
  · replace h := of_ifn h c1
    exact t_X12_readExpression_19 hD  hs  h
theorem f_X12_readExpression {X : Sx} {l : Launch} {x1 : Int32} {σ : AH} {σ' : AH} (hs : Sh σ) (h : F_X12_readExpression x1 σ = some σ') : Call X l m_X12_readExpression 6 [.ref 124, .int x1] σ none σ' :=
  Call.ofE ok_X12_readExpression rfl (Nat.le_of_ble_eq_true rfl) (w_X12_readExpression_0 hs  (t_X12_readExpression_0 (Nat.le_refl _) hs  h))
def F_X12_kindAt (σ : AH) : Option (Int32 × AH) := (bd (F_X12_isWord (2696299 : Int64) σ) fun v6 σ2 => (if v6 = 0 then (bd (F_X12_isWord (20583596 : Int64) σ2) fun v12 σ8 => (if v12 = 0 then (bd (F_X12_isWord (8884 : Int64) σ8) fun v18 σ14 => (if v18 = 0 then (some ((-1 : Int32), σ14)) else (some ((2 : Int32), σ14)))) else (some ((1 : Int32), σ8)))) else (some ((0 : Int32), σ2))))
set_option maxRecDepth 100000 in
theorem t_X12_kindAt_0 {X : Sx} {l : Launch} {D : Nat} {σ : AH} {v : Int32} {σ' : AH} (hD : 1 ≤ D) (hs : Sh σ) (h : F_X12_kindAt σ = some (v, σ')) : W_X12_kindAt_0 X l D σ (some (.int v)) σ' := by
  unfold F_X12_kindAt at h
  unfold W_X12_kindAt_0
  obtain ⟨v6, σ2, q1, h⟩ := of_bd h
  have hC2 := f_X12_isWord (σ := σ) hs  q1 (X := X) (l := l)
  have hs3 := hC2.1.2.2.2.1 hs
  refine ⟨0, v6, σ2, (Nat.le_trans (by decide) hD), hC2, ?_⟩
  refine ite_i (fun c4 => ?_) (fun c4 => ?_)
  · replace h := of_ifp h c4
    obtain ⟨v12, σ8, q5, h⟩ := of_bd h
    have hC6 := f_X12_isWord (σ := σ2) hs3  q5 (X := X) (l := l)
    have hs7 := hC6.1.2.2.2.1 hs3
    refine ⟨0, v12, σ8, (Nat.le_trans (by decide) hD), hC6, ?_⟩
    refine ite_i (fun c8 => ?_) (fun c8 => ?_)
    · replace h := of_ifp h c8
      obtain ⟨v18, σ14, q9, h⟩ := of_bd h
      have hC10 := f_X12_isWord (σ := σ8) hs7  q9 (X := X) (l := l)
      have hs11 := hC10.1.2.2.2.1 hs7
      refine ⟨0, v18, σ14, (Nat.le_trans (by decide) hD), hC10, ?_⟩
      refine ite_i (fun c12 => ?_) (fun c12 => ?_)
      · replace h := of_ifp h c12
        exact ret_i h
      · replace h := of_ifn h c12
        exact ret_i h
    · replace h := of_ifn h c8
      exact ret_i h
  · replace h := of_ifn h c4
    exact ret_i h
theorem f_X12_kindAt {X : Sx} {l : Launch} {σ : AH} {v : Int32} {σ' : AH} (hs : Sh σ) (h : F_X12_kindAt σ = some (v, σ')) : Call X l m_X12_kindAt 1 [.ref 124] σ (some (.int v)) σ' :=
  Call.ofE ok_X12_kindAt rfl (Nat.le_of_ble_eq_true rfl) (w_X12_kindAt_0 hs  (t_X12_kindAt_0 (Nat.le_refl _) hs  h))
def F_X12_stageAt (σ : AH) : Option (Int32 × AH) := (bd (F_X12_isWord (67173 : Int64) σ) fun v6 σ2 => (if v6 = 0 then (bd (F_X12_isWord (20190604 : Int64) σ2) fun v12 σ8 => (if v12 = 0 then (bd (F_X12_isWord (6452 : Int64) σ8) fun v18 σ14 => (if v18 = 0 then (some ((-1 : Int32), σ14)) else (some ((2 : Int32), σ14)))) else (some ((1 : Int32), σ8)))) else (some ((0 : Int32), σ2))))
set_option maxRecDepth 100000 in
theorem t_X12_stageAt_0 {X : Sx} {l : Launch} {D : Nat} {σ : AH} {v : Int32} {σ' : AH} (hD : 1 ≤ D) (hs : Sh σ) (h : F_X12_stageAt σ = some (v, σ')) : W_X12_stageAt_0 X l D σ (some (.int v)) σ' := by
  unfold F_X12_stageAt at h
  unfold W_X12_stageAt_0
  obtain ⟨v6, σ2, q1, h⟩ := of_bd h
  have hC2 := f_X12_isWord (σ := σ) hs  q1 (X := X) (l := l)
  have hs3 := hC2.1.2.2.2.1 hs
  refine ⟨0, v6, σ2, (Nat.le_trans (by decide) hD), hC2, ?_⟩
  refine ite_i (fun c4 => ?_) (fun c4 => ?_)
  · replace h := of_ifp h c4
    obtain ⟨v12, σ8, q5, h⟩ := of_bd h
    have hC6 := f_X12_isWord (σ := σ2) hs3  q5 (X := X) (l := l)
    have hs7 := hC6.1.2.2.2.1 hs3
    refine ⟨0, v12, σ8, (Nat.le_trans (by decide) hD), hC6, ?_⟩
    refine ite_i (fun c8 => ?_) (fun c8 => ?_)
    · replace h := of_ifp h c8
      obtain ⟨v18, σ14, q9, h⟩ := of_bd h
      have hC10 := f_X12_isWord (σ := σ8) hs7  q9 (X := X) (l := l)
      have hs11 := hC10.1.2.2.2.1 hs7
      refine ⟨0, v18, σ14, (Nat.le_trans (by decide) hD), hC10, ?_⟩
      refine ite_i (fun c12 => ?_) (fun c12 => ?_)
      · replace h := of_ifp h c12
        exact ret_i h
      · replace h := of_ifn h c12
        exact ret_i h
    · replace h := of_ifn h c8
      exact ret_i h
  · replace h := of_ifn h c4
    exact ret_i h
theorem f_X12_stageAt {X : Sx} {l : Launch} {σ : AH} {v : Int32} {σ' : AH} (hs : Sh σ) (h : F_X12_stageAt σ = some (v, σ')) : Call X l m_X12_stageAt 1 [.ref 124] σ (some (.int v)) σ' :=
  Call.ofE ok_X12_stageAt rfl (Nat.le_of_ble_eq_true rfl) (w_X12_stageAt_0 hs  (t_X12_stageAt_0 (Nat.le_refl _) hs  h))
def F_X12_materialAt (σ : AH) : Option (Int32 × AH) := (bd (F_X12_isWord (86281587 : Int64) σ) fun v6 σ2 => (if v6 = 0 then (bd (F_X12_isWord (680954034 : Int64) σ2) fun v12 σ8 => (if v12 = 0 then (bd (F_X12_isWord (20583596 : Int64) σ8) fun v18 σ14 => (if v18 = 0 then (bd (F_X12_isWord (113708 : Int64) σ14) fun v24 σ20 => (if v24 = 0 then (bd (F_X12_isWord (370323 : Int64) σ20) fun v30 σ26 => (if v30 = 0 then (some ((-1 : Int32), σ26)) else (some ((4 : Int32), σ26)))) else (some ((3 : Int32), σ20)))) else (some ((2 : Int32), σ14)))) else (some ((1 : Int32), σ8)))) else (some ((0 : Int32), σ2))))
set_option maxRecDepth 100000 in
theorem t_X12_materialAt_0 {X : Sx} {l : Launch} {D : Nat} {σ : AH} {v : Int32} {σ' : AH} (hD : 1 ≤ D) (hs : Sh σ) (h : F_X12_materialAt σ = some (v, σ')) : W_X12_materialAt_0 X l D σ (some (.int v)) σ' := by
  unfold F_X12_materialAt at h
  unfold W_X12_materialAt_0
  obtain ⟨v6, σ2, q1, h⟩ := of_bd h
  have hC2 := f_X12_isWord (σ := σ) hs  q1 (X := X) (l := l)
  have hs3 := hC2.1.2.2.2.1 hs
  refine ⟨0, v6, σ2, (Nat.le_trans (by decide) hD), hC2, ?_⟩
  refine ite_i (fun c4 => ?_) (fun c4 => ?_)
  · replace h := of_ifp h c4
    obtain ⟨v12, σ8, q5, h⟩ := of_bd h
    have hC6 := f_X12_isWord (σ := σ2) hs3  q5 (X := X) (l := l)
    have hs7 := hC6.1.2.2.2.1 hs3
    refine ⟨0, v12, σ8, (Nat.le_trans (by decide) hD), hC6, ?_⟩
    refine ite_i (fun c8 => ?_) (fun c8 => ?_)
    · replace h := of_ifp h c8
      obtain ⟨v18, σ14, q9, h⟩ := of_bd h
      have hC10 := f_X12_isWord (σ := σ8) hs7  q9 (X := X) (l := l)
      have hs11 := hC10.1.2.2.2.1 hs7
      refine ⟨0, v18, σ14, (Nat.le_trans (by decide) hD), hC10, ?_⟩
      refine ite_i (fun c12 => ?_) (fun c12 => ?_)
      · replace h := of_ifp h c12
        obtain ⟨v24, σ20, q13, h⟩ := of_bd h
        have hC14 := f_X12_isWord (σ := σ14) hs11  q13 (X := X) (l := l)
        have hs15 := hC14.1.2.2.2.1 hs11
        refine ⟨0, v24, σ20, (Nat.le_trans (by decide) hD), hC14, ?_⟩
        refine ite_i (fun c16 => ?_) (fun c16 => ?_)
        · replace h := of_ifp h c16
          obtain ⟨v30, σ26, q17, h⟩ := of_bd h
          have hC18 := f_X12_isWord (σ := σ20) hs15  q17 (X := X) (l := l)
          have hs19 := hC18.1.2.2.2.1 hs15
          refine ⟨0, v30, σ26, (Nat.le_trans (by decide) hD), hC18, ?_⟩
          refine ite_i (fun c20 => ?_) (fun c20 => ?_)
          · replace h := of_ifp h c20
            exact ret_i h
          · replace h := of_ifn h c20
            exact ret_i h
        · replace h := of_ifn h c16
          exact ret_i h
      · replace h := of_ifn h c12
        exact ret_i h
    · replace h := of_ifn h c8
      exact ret_i h
  · replace h := of_ifn h c4
    exact ret_i h
theorem f_X12_materialAt {X : Sx} {l : Launch} {σ : AH} {v : Int32} {σ' : AH} (hs : Sh σ) (h : F_X12_materialAt σ = some (v, σ')) : Call X l m_X12_materialAt 1 [.ref 124] σ (some (.int v)) σ' :=
  Call.ofE ok_X12_materialAt rfl (Nat.le_of_ble_eq_true rfl) (w_X12_materialAt_0 hs  (t_X12_materialAt_0 (Nat.le_refl _) hs  h))
def F_X12_headAt_160 (σ : AH) : Option (Int32 × AH) := (bd (F_X12_isWord (6605428 : Int64) σ) fun v84 σ80 => (if v84 = 0 then (some ((-1 : Int32), σ80)) else (some ((8 : Int32), σ80))))
def F_X12_headAt_155 (σ : AH) : Option (Int32 × AH) := (some ((7 : Int32), σ))
def F_X12_headAt_114 (σ : AH) : Option (Int32 × AH) := (bd (F_X12_isWord (13190215781 : Int64) σ) fun v72 σ68 => (if v72 = 0 then (bd (F_X12_isWord (595412 : Int64) σ68) fun v78 σ74 => (if v78 = 0 then (some ((6 : Int32), σ74)) else (some ((5 : Int32), σ74)))) else (some ((4 : Int32), σ68))))
def F_X12_headAt_40 (σ : AH) : Option (Int32 × AH) := (bd (F_X12_isWord (659105125 : Int64) σ) fun v54 σ50 => (if v54 = 0 then (bd (F_X12_isWord (464036 : Int64) σ50) fun v60 σ56 => (if v60 = 0 then (bd (F_X12_isWord (769611 : Int64) σ56) fun v66 σ62 => (if v66 = 0 then (some ((3 : Int32), σ62)) else (some ((2 : Int32), σ62)))) else (some ((1 : Int32), σ56)))) else (some ((0 : Int32), σ50))))
def F_X12_headAt (σ : AH) : Option (Int32 × AH) := (bd (F_X12_isWord (659105125 : Int64) σ) fun v6 σ2 => (if v6 = 0 then (bd (F_X12_isWord (464036 : Int64) σ2) fun v12 σ8 => (if v12 = 0 then (bd (F_X12_isWord (769611 : Int64) σ8) fun v18 σ14 => (if v18 = 0 then (bd (F_X12_isWord (552909459 : Int64) σ14) fun v24 σ20 => (if v24 = 0 then (bd (F_X12_isWord (13190215781 : Int64) σ20) fun v30 σ26 => (if v30 = 0 then (bd (F_X12_isWord (595412 : Int64) σ26) fun v36 σ32 => (if v36 = 0 then (bd (F_X12_isWord (284307 : Int64) σ32) fun v42 σ38 => (if v42 = 0 then (bd (F_X12_isWord (20501556 : Int64) σ38) fun v48 σ44 => (if v48 = 0 then (F_X12_headAt_160 σ44) else (F_X12_headAt_155 σ44))) else (F_X12_headAt_114 σ38))) else (F_X12_headAt_114 σ32))) else (F_X12_headAt_114 σ26))) else (F_X12_headAt_40 σ20))) else (F_X12_headAt_40 σ14))) else (F_X12_headAt_40 σ8))) else (F_X12_headAt_40 σ2)))
set_option maxRecDepth 100000 in
theorem t_X12_headAt_160 {X : Sx} {l : Launch} {D : Nat} {σ : AH} {v : Int32} {σ' : AH} (hD : 1 ≤ D) (hs : Sh σ) (h : F_X12_headAt_160 σ = some (v, σ')) : W_X12_headAt_160 X l D σ (some (.int v)) σ' := by
  unfold F_X12_headAt_160 at h
  unfold W_X12_headAt_160
  obtain ⟨v84, σ80, q1, h⟩ := of_bd h
  have hC2 := f_X12_isWord (σ := σ) hs  q1 (X := X) (l := l)
  have hs3 := hC2.1.2.2.2.1 hs
  refine ⟨0, v84, σ80, (Nat.le_trans (by decide) hD), hC2, ?_⟩
  refine ite_i (fun c4 => ?_) (fun c4 => ?_)
  · replace h := of_ifp h c4
    exact ret_i h
  · replace h := of_ifn h c4
    exact ret_i h
set_option maxRecDepth 100000 in
theorem t_X12_headAt_155 {X : Sx} {l : Launch} {D : Nat} {σ : AH} {v : Int32} {σ' : AH} (hD : 1 ≤ D) (hs : Sh σ) (h : F_X12_headAt_155 σ = some (v, σ')) : W_X12_headAt_155 X l D σ (some (.int v)) σ' := by
  unfold F_X12_headAt_155 at h
  unfold W_X12_headAt_155
  exact ret_i h
set_option maxRecDepth 100000 in
theorem t_X12_headAt_114 {X : Sx} {l : Launch} {D : Nat} {σ : AH} {v : Int32} {σ' : AH} (hD : 1 ≤ D) (hs : Sh σ) (h : F_X12_headAt_114 σ = some (v, σ')) : W_X12_headAt_114 X l D σ (some (.int v)) σ' := by
  unfold F_X12_headAt_114 at h
  unfold W_X12_headAt_114
  obtain ⟨v72, σ68, q1, h⟩ := of_bd h
  have hC2 := f_X12_isWord (σ := σ) hs  q1 (X := X) (l := l)
  have hs3 := hC2.1.2.2.2.1 hs
  refine ⟨0, v72, σ68, (Nat.le_trans (by decide) hD), hC2, ?_⟩
  refine ite_i (fun c4 => ?_) (fun c4 => ?_)
  · replace h := of_ifp h c4
    obtain ⟨v78, σ74, q5, h⟩ := of_bd h
    have hC6 := f_X12_isWord (σ := σ68) hs3  q5 (X := X) (l := l)
    have hs7 := hC6.1.2.2.2.1 hs3
    refine ⟨0, v78, σ74, (Nat.le_trans (by decide) hD), hC6, ?_⟩
    refine ite_i (fun c8 => ?_) (fun c8 => ?_)
    · replace h := of_ifp h c8
      exact ret_i h
    · replace h := of_ifn h c8
      exact ret_i h
  · replace h := of_ifn h c4
    exact ret_i h
set_option maxRecDepth 100000 in
theorem t_X12_headAt_40 {X : Sx} {l : Launch} {D : Nat} {σ : AH} {v : Int32} {σ' : AH} (hD : 1 ≤ D) (hs : Sh σ) (h : F_X12_headAt_40 σ = some (v, σ')) : W_X12_headAt_40 X l D σ (some (.int v)) σ' := by
  unfold F_X12_headAt_40 at h
  unfold W_X12_headAt_40
  obtain ⟨v54, σ50, q1, h⟩ := of_bd h
  have hC2 := f_X12_isWord (σ := σ) hs  q1 (X := X) (l := l)
  have hs3 := hC2.1.2.2.2.1 hs
  refine ⟨0, v54, σ50, (Nat.le_trans (by decide) hD), hC2, ?_⟩
  refine ite_i (fun c4 => ?_) (fun c4 => ?_)
  · replace h := of_ifp h c4
    obtain ⟨v60, σ56, q5, h⟩ := of_bd h
    have hC6 := f_X12_isWord (σ := σ50) hs3  q5 (X := X) (l := l)
    have hs7 := hC6.1.2.2.2.1 hs3
    refine ⟨0, v60, σ56, (Nat.le_trans (by decide) hD), hC6, ?_⟩
    refine ite_i (fun c8 => ?_) (fun c8 => ?_)
    · replace h := of_ifp h c8
      obtain ⟨v66, σ62, q9, h⟩ := of_bd h
      have hC10 := f_X12_isWord (σ := σ56) hs7  q9 (X := X) (l := l)
      have hs11 := hC10.1.2.2.2.1 hs7
      refine ⟨0, v66, σ62, (Nat.le_trans (by decide) hD), hC10, ?_⟩
      refine ite_i (fun c12 => ?_) (fun c12 => ?_)
      · replace h := of_ifp h c12
        exact ret_i h
      · replace h := of_ifn h c12
        exact ret_i h
    · replace h := of_ifn h c8
      exact ret_i h
  · replace h := of_ifn h c4
    exact ret_i h
set_option maxRecDepth 100000 in
theorem t_X12_headAt_0 {X : Sx} {l : Launch} {D : Nat} {σ : AH} {v : Int32} {σ' : AH} (hD : 1 ≤ D) (hs : Sh σ) (h : F_X12_headAt σ = some (v, σ')) : W_X12_headAt_0 X l D σ (some (.int v)) σ' := by
  unfold F_X12_headAt at h
  unfold W_X12_headAt_0
  obtain ⟨v6, σ2, q1, h⟩ := of_bd h
  have hC2 := f_X12_isWord (σ := σ) hs  q1 (X := X) (l := l)
  have hs3 := hC2.1.2.2.2.1 hs
  refine ⟨0, v6, σ2, (Nat.le_trans (by decide) hD), hC2, ?_⟩
  refine ite_i (fun c4 => ?_) (fun c4 => ?_)
  · replace h := of_ifp h c4
    obtain ⟨v12, σ8, q5, h⟩ := of_bd h
    have hC6 := f_X12_isWord (σ := σ2) hs3  q5 (X := X) (l := l)
    have hs7 := hC6.1.2.2.2.1 hs3
    refine ⟨0, v12, σ8, (Nat.le_trans (by decide) hD), hC6, ?_⟩
    refine ite_i (fun c8 => ?_) (fun c8 => ?_)
    · replace h := of_ifp h c8
      obtain ⟨v18, σ14, q9, h⟩ := of_bd h
      have hC10 := f_X12_isWord (σ := σ8) hs7  q9 (X := X) (l := l)
      have hs11 := hC10.1.2.2.2.1 hs7
      refine ⟨0, v18, σ14, (Nat.le_trans (by decide) hD), hC10, ?_⟩
      refine ite_i (fun c12 => ?_) (fun c12 => ?_)
      · replace h := of_ifp h c12
        obtain ⟨v24, σ20, q13, h⟩ := of_bd h
        have hC14 := f_X12_isWord (σ := σ14) hs11  q13 (X := X) (l := l)
        have hs15 := hC14.1.2.2.2.1 hs11
        refine ⟨0, v24, σ20, (Nat.le_trans (by decide) hD), hC14, ?_⟩
        refine ite_i (fun c16 => ?_) (fun c16 => ?_)
        · replace h := of_ifp h c16
          obtain ⟨v30, σ26, q17, h⟩ := of_bd h
          have hC18 := f_X12_isWord (σ := σ20) hs15  q17 (X := X) (l := l)
          have hs19 := hC18.1.2.2.2.1 hs15
          refine ⟨0, v30, σ26, (Nat.le_trans (by decide) hD), hC18, ?_⟩
          refine ite_i (fun c20 => ?_) (fun c20 => ?_)
          · replace h := of_ifp h c20
            obtain ⟨v36, σ32, q21, h⟩ := of_bd h
            have hC22 := f_X12_isWord (σ := σ26) hs19  q21 (X := X) (l := l)
            have hs23 := hC22.1.2.2.2.1 hs19
            refine ⟨0, v36, σ32, (Nat.le_trans (by decide) hD), hC22, ?_⟩
            refine ite_i (fun c24 => ?_) (fun c24 => ?_)
            · replace h := of_ifp h c24
              obtain ⟨v42, σ38, q25, h⟩ := of_bd h
              have hC26 := f_X12_isWord (σ := σ32) hs23  q25 (X := X) (l := l)
              have hs27 := hC26.1.2.2.2.1 hs23
              refine ⟨0, v42, σ38, (Nat.le_trans (by decide) hD), hC26, ?_⟩
              refine ite_i (fun c28 => ?_) (fun c28 => ?_)
              · replace h := of_ifp h c28
                obtain ⟨v48, σ44, q29, h⟩ := of_bd h
                have hC30 := f_X12_isWord (σ := σ38) hs27  q29 (X := X) (l := l)
                have hs31 := hC30.1.2.2.2.1 hs27
                refine ⟨0, v48, σ44, (Nat.le_trans (by decide) hD), hC30, ?_⟩
                refine ite_i (fun c32 => ?_) (fun c32 => ?_)
                · replace h := of_ifp h c32
                  exact t_X12_headAt_160 hD  hs31  h
                · replace h := of_ifn h c32
                  exact t_X12_headAt_155 hD  hs31  h
              · replace h := of_ifn h c28
                exact t_X12_headAt_114 hD  hs27  h
            · replace h := of_ifn h c24
              exact t_X12_headAt_114 hD  hs23  h
          · replace h := of_ifn h c20
            exact t_X12_headAt_114 hD  hs19  h
        · replace h := of_ifn h c16
          exact t_X12_headAt_40 hD  hs15  h
      · replace h := of_ifn h c12
        exact t_X12_headAt_40 hD  hs11  h
    · replace h := of_ifn h c8
      exact t_X12_headAt_40 hD  hs7  h
  · replace h := of_ifn h c4
    exact t_X12_headAt_40 hD  hs3  h
theorem f_X12_headAt {X : Sx} {l : Launch} {σ : AH} {v : Int32} {σ' : AH} (hs : Sh σ) (h : F_X12_headAt σ = some (v, σ')) : Call X l m_X12_headAt 1 [.ref 124] σ (some (.int v)) σ' :=
  Call.ofE ok_X12_headAt rfl (Nat.le_of_ble_eq_true rfl) (w_X12_headAt_0 hs  (t_X12_headAt_0 (Nat.le_refl _) hs  h))
def F_X12_choice_11 (x1 : Int32) (y0 : Int32) (σ : AH) : Option (Int32 × AH) := (bv (F_X12_must y0 σ) fun σ2 => (some (x1, σ2)))
def F_X12_choice (x1 : Int32) (σ : AH) : Option (Int32 × AH) := (if x1 = (-1 : Int32) then (F_X12_choice_11 x1 (0 : Int32) σ) else (F_X12_choice_11 x1 (1 : Int32) σ))
set_option maxRecDepth 100000 in
theorem t_X12_choice_11 {X : Sx} {l : Launch} {D : Nat} {x1 : Int32} {y0 : Int32} {σ : AH} {v : Int32} {σ' : AH} (hD : 3 ≤ D) (hs : Sh σ) (h : F_X12_choice_11 x1 y0 σ = some (v, σ')) : W_X12_choice_11 X l D x1 y0 σ (some (.int v)) σ' := by
  unfold F_X12_choice_11 at h
  unfold W_X12_choice_11
  obtain ⟨σ2, q1, h⟩ := of_bv h
  have hC2 := f_X12_must (σ := σ) hs  q1 (X := X) (l := l)
  have hs3 := hC2.1.2.2.2.1 hs
  refine ⟨2, σ2, (Nat.le_trans (by decide) hD), hC2, ?_⟩
  exact ret_i h
set_option maxRecDepth 100000 in
theorem t_X12_choice_0 {X : Sx} {l : Launch} {D : Nat} {x1 : Int32} {σ : AH} {v : Int32} {σ' : AH} (hD : 3 ≤ D) (hs : Sh σ) (h : F_X12_choice x1 σ = some (v, σ')) : W_X12_choice_0 X l D x1 σ (some (.int v)) σ' := by
  unfold F_X12_choice at h
  unfold W_X12_choice_0
  refine ite_i (fun c1 => ?_) (fun c1 => ?_)
  · replace h := of_ifp h c1
    exact t_X12_choice_11 hD  hs  h
  · replace h := of_ifn h c1
    exact t_X12_choice_11 hD  hs  h
theorem f_X12_choice {X : Sx} {l : Launch} {x1 : Int32} {σ : AH} {v : Int32} {σ' : AH} (hs : Sh σ) (h : F_X12_choice x1 σ = some (v, σ')) : Call X l m_X12_choice 3 [.ref 124, .int x1] σ (some (.int v)) σ' :=
  Call.ofE ok_X12_choice rfl (Nat.le_of_ble_eq_true rfl) (w_X12_choice_0 hs  (t_X12_choice_0 (Nat.le_refl _) hs  h))
def F_X12_readClause_317 (x2 : Int32) (σ : AH) : Option AH := (if inB (x2 + (7 : Int32)) 144 = true then (some (sI σ 129 ((x2 + (7 : Int32)).toNatClampNeg) (gI σ 124 15))) else none)
def F_X12_readClause_266 (x2 : Int32) (σ : AH) : Option AH := (if inB (x2 + (5 : Int32)) 144 = true then (if inB (x2 + (6 : Int32)) 144 = true then (lt (sI (sI σ 129 ((x2 + (5 : Int32)).toNatClampNeg) (gI σ 124 15)) 129 ((x2 + (6 : Int32)).toNatClampNeg) (gI (sI σ 129 ((x2 + (5 : Int32)).toNatClampNeg) (gI σ 124 15)) 124 15)) fun τ86 => (if (gI τ86 124 12) = 0 then (bd (F_X12_isWord (294 : Int64) τ86) fun v94 σ90 => (if v94 = 0 then (F_X12_readClause_317 x2 σ90) else (bv (F_X12_next σ90) fun σ96 => (bv (F_X12_readExpression (1 : Int32) σ96) fun σ101 => (F_X12_readClause_317 x2 σ101))))) else (F_X12_readClause_317 x2 τ86))) else none) else none)
def F_X12_readClause_235 (x1 : Int32) (x2 : Int32) (y0 : Int32) (y1 : Int32) (σ : AH) : Option AH := (if inB y1 144 = true then (if inB (x2 + (4 : Int32)) 144 = true then (if x1 = (8 : Int32) then (F_X12_readClause_266 x2 (sI (sI σ 129 y1.toNatClampNeg y0) 129 ((x2 + (4 : Int32)).toNatClampNeg) (gI (sI σ 129 y1.toNatClampNeg y0) 124 15))) else (if (gI (sI (sI σ 129 y1.toNatClampNeg y0) 129 ((x2 + (4 : Int32)).toNatClampNeg) (gI (sI σ 129 y1.toNatClampNeg y0) 124 15)) 124 12) = 0 then (bv (F_X12_readExpression (0 : Int32) (sI (sI σ 129 y1.toNatClampNeg y0) 129 ((x2 + (4 : Int32)).toNatClampNeg) (gI (sI σ 129 y1.toNatClampNeg y0) 124 15))) fun σ80 => (F_X12_readClause_266 x2 σ80)) else (F_X12_readClause_266 x2 (sI (sI σ 129 y1.toNatClampNeg y0) 129 ((x2 + (4 : Int32)).toNatClampNeg) (gI (sI σ 129 y1.toNatClampNeg y0) 124 15))))) else none) else none)
def F_X12_readClause_210 (x1 : Int32) (x2 : Int32) (y0 : Int32) (y1 : Int32) (σ : AH) : Option AH := (if inB y1 144 = true then (if x1 = (1 : Int32) then (bd (F_X12_materialAt (sI σ 129 y1.toNatClampNeg y0)) fun v70 σ66 => (bd (F_X12_choice v70 σ66) fun v76 σ72 => (F_X12_readClause_235 x1 x2 v76 (x2 + (3 : Int32)) σ72))) else (F_X12_readClause_235 x1 x2 (0 : Int32) (x2 + (3 : Int32)) (sI σ 129 y1.toNatClampNeg y0))) else none)
def F_X12_readClause_198 (x1 : Int32) (x2 : Int32) (y0 : Int32) (σ : AH) : Option AH := (bd (F_X12_stageAt σ) fun v57 σ53 => (bd (F_X12_choice v57 σ53) fun v63 σ59 => (F_X12_readClause_210 x1 x2 v63 y0 σ59)))
def F_X12_readClause_180 (x1 : Int32) (x2 : Int32) (y0 : Int32) (y1 : Int32) (σ : AH) : Option AH := (if inB y1 144 = true then (if x1 = (1 : Int32) then (F_X12_readClause_198 x1 x2 (x2 + (2 : Int32)) (sI σ 129 y1.toNatClampNeg y0)) else (if x1 = (2 : Int32) then (F_X12_readClause_198 x1 x2 (x2 + (2 : Int32)) (sI σ 129 y1.toNatClampNeg y0)) else (F_X12_readClause_210 x1 x2 (0 : Int32) (x2 + (2 : Int32)) (sI σ 129 y1.toNatClampNeg y0)))) else none)
def F_X12_readClause_156 (x1 : Int32) (x2 : Int32) (y0 : Int32) (σ : AH) : Option AH := (if y0 = 0 then (F_X12_readClause_180 x1 x2 (0 : Int32) (x2 + (1 : Int32)) σ) else (bd (F_X12_kindAt σ) fun v44 σ40 => (bd (F_X12_choice v44 σ40) fun v50 σ46 => (F_X12_readClause_180 x1 x2 v50 (x2 + (1 : Int32)) σ46))))
def F_X12_readClause_151 (x1 : Int32) (x2 : Int32) (σ : AH) : Option AH := (F_X12_readClause_156 x1 x2 (1 : Int32) σ)
def B_X12_readClause_46 (k_X12_readClause_46 : Int32 → Int32 → Int32 → AH → Option AH) (x1 : Int32) (x2 : Int32) (x3 : Int32) (σ : AH) : Option AH := (if (9 : Int32) ≤ x3 then (if inB x2 144 = true then (if x1 = 0 then (bd (F_X12_number (23 : Int64) (sI (sI σ 129 x2.toNatClampNeg x1) 124 13 ((gI (sI σ 129 x2.toNatClampNeg x1) 124 13) + (1 : Int32)))) fun v18 σ14 => (if inB (x2 + (1 : Int32)) 144 = true then (bd (F_X12_isWord (113301093 : Int64) (sI σ14 129 ((x2 + (1 : Int32)).toNatClampNeg) v18)) fun v25 σ21 => (bv (F_X12_must v25 σ21) fun σ27 => (bd (F_X12_number (15 : Int64) σ27) fun v36 σ32 => (if inB (x2 + (2 : Int32)) 144 = true then (some (sI σ32 129 ((x2 + (2 : Int32)).toNatClampNeg) v36)) else none)))) else none)) else (if x1 = (1 : Int32) then (F_X12_readClause_151 x1 x2 (sI (sI σ 129 x2.toNatClampNeg x1) 124 13 ((gI (sI σ 129 x2.toNatClampNeg x1) 124 13) + (1 : Int32)))) else (if x1 = (2 : Int32) then (F_X12_readClause_151 x1 x2 (sI (sI σ 129 x2.toNatClampNeg x1) 124 13 ((gI (sI σ 129 x2.toNatClampNeg x1) 124 13) + (1 : Int32)))) else (if x1 = (4 : Int32) then (F_X12_readClause_151 x1 x2 (sI (sI σ 129 x2.toNatClampNeg x1) 124 13 ((gI (sI σ 129 x2.toNatClampNeg x1) 124 13) + (1 : Int32)))) else (if x1 = (8 : Int32) then (F_X12_readClause_151 x1 x2 (sI (sI σ 129 x2.toNatClampNeg x1) 124 13 ((gI (sI σ 129 x2.toNatClampNeg x1) 124 13) + (1 : Int32)))) else (F_X12_readClause_156 x1 x2 (0 : Int32) (sI (sI σ 129 x2.toNatClampNeg x1) 124 13 ((gI (sI σ 129 x2.toNatClampNeg x1) 124 13) + (1 : Int32))))))))) else none) else (if inB (x2 + x3) 144 = true then (k_X12_readClause_46 x1 x2 (x3 + 1) (sI σ 129 ((x2 + x3).toNatClampNeg) (0 : Int32))) else none))
def F_X12_readClause_46 : Nat → Int32 → Int32 → Int32 → AH → Option AH := fun k => match k with | 0 => fun _ _ _ _ => none | k + 1 => B_X12_readClause_46 (F_X12_readClause_46 k)
def F_X12_readClause_25 (x1 : Int32) (y0 : Int32) (σ : AH) : Option AH := (bv (F_X12_must y0 σ) fun σ8 => (if (gI σ8 124 12) = 0 then (F_X12_readClause_46 BIG x1 ((9 : Int32) * (gI σ8 124 13)) (0 : Int32) σ8) else (some σ8)))
def F_X12_readClause_24 (x1 : Int32) (σ : AH) : Option AH := (F_X12_readClause_25 x1 (0 : Int32) σ)
def F_X12_readClause (σ : AH) : Option AH := (bd (F_X12_headAt σ) fun v6 σ2 => (if v6 = (-1 : Int32) then (F_X12_readClause_24 v6 σ2) else (if (16 : Int32) ≤ (gI σ2 124 13) then (F_X12_readClause_24 v6 σ2) else (F_X12_readClause_25 v6 (1 : Int32) σ2))))
set_option maxRecDepth 100000 in
theorem t_X12_readClause_317 {X : Sx} {l : Launch} {D : Nat} {x2 : Int32} {σ : AH} {σ' : AH} (hD : 7 ≤ D) (hs : Sh σ) (h : F_X12_readClause_317 x2 σ = some σ') : W_X12_readClause_317 X l D x2 σ none σ' := by
  unfold F_X12_readClause_317 at h
  unfold W_X12_readClause_317
  obtain ⟨g1, h⟩ := of_gd h
  refine ⟨(inB_mp g1), ?_⟩
  exact ret_v h
set_option maxRecDepth 100000 in
theorem t_X12_readClause_266 {X : Sx} {l : Launch} {D : Nat} {x2 : Int32} {σ : AH} {σ' : AH} (hD : 7 ≤ D) (hs : Sh σ) (h : F_X12_readClause_266 x2 σ = some σ') : W_X12_readClause_266 X l D x2 σ none σ' := by
  unfold F_X12_readClause_266 at h
  unfold W_X12_readClause_266
  obtain ⟨g1, h⟩ := of_gd h
  refine ⟨(inB_mp g1), ?_⟩
  obtain ⟨g2, h⟩ := of_gd h
  refine ⟨(inB_mp g2), ?_⟩
  intro τ86 e3
  replace h := of_lt h e3
  have hs4 : Sh τ86 := by rw [e3]; exact hs
  refine ite_i (fun c5 => ?_) (fun c5 => ?_)
  · replace h := of_ifp h c5
    obtain ⟨v94, σ90, q6, h⟩ := of_bd h
    have hC7 := f_X12_isWord (σ := τ86) hs4  q6 (X := X) (l := l)
    have hs8 := hC7.1.2.2.2.1 hs4
    refine ⟨0, v94, σ90, (Nat.le_trans (by decide) hD), hC7, ?_⟩
    refine ite_i (fun c9 => ?_) (fun c9 => ?_)
    · replace h := of_ifp h c9
      exact t_X12_readClause_317 hD  hs8  h
    · replace h := of_ifn h c9
      obtain ⟨σ96, q10, h⟩ := of_bv h
      have hC11 := f_X12_next (σ := σ90) hs8  q10 (X := X) (l := l)
      have hs12 := hC11.1.2.2.2.1 hs8
      refine ⟨1, σ96, (Nat.le_trans (by decide) hD), hC11, ?_⟩
      obtain ⟨σ101, q13, h⟩ := of_bv h
      have hC14 := f_X12_readExpression (σ := σ96) hs12  q13 (X := X) (l := l)
      have hs15 := hC14.1.2.2.2.1 hs12
      refine ⟨6, σ101, (Nat.le_trans (by decide) hD), hC14, ?_⟩
      exact t_X12_readClause_317 hD  hs15  h
  · replace h := of_ifn h c5
    exact t_X12_readClause_317 hD  hs4  h
set_option maxRecDepth 100000 in
theorem t_X12_readClause_235 {X : Sx} {l : Launch} {D : Nat} {x1 : Int32} {x2 : Int32} {y0 : Int32} {y1 : Int32} {σ : AH} {σ' : AH} (hD : 7 ≤ D) (hs : Sh σ) (h : F_X12_readClause_235 x1 x2 y0 y1 σ = some σ') : W_X12_readClause_235 X l D x1 x2 y0 y1 σ none σ' := by
  unfold F_X12_readClause_235 at h
  unfold W_X12_readClause_235
  obtain ⟨g1, h⟩ := of_gd h
  refine ⟨(inB_mp g1), ?_⟩
  obtain ⟨g2, h⟩ := of_gd h
  refine ⟨(inB_mp g2), ?_⟩
  refine ite_i (fun c3 => ?_) (fun c3 => ?_)
  · replace h := of_ifp h c3
    exact t_X12_readClause_266 hD  hs  h
  · replace h := of_ifn h c3
    refine ite_i (fun c4 => ?_) (fun c4 => ?_)
    · replace h := of_ifp h c4
      obtain ⟨σ80, q5, h⟩ := of_bv h
      have hC6 := f_X12_readExpression (σ := (sI (sI σ 129 y1.toNatClampNeg y0) 129 ((x2 + (4 : Int32)).toNatClampNeg) (gI (sI σ 129 y1.toNatClampNeg y0) 124 15))) hs  q5 (X := X) (l := l)
      have hs7 := hC6.1.2.2.2.1 hs
      refine ⟨6, σ80, (Nat.le_trans (by decide) hD), hC6, ?_⟩
      exact t_X12_readClause_266 hD  hs7  h
    · replace h := of_ifn h c4
      exact t_X12_readClause_266 hD  hs  h
set_option maxRecDepth 100000 in
theorem t_X12_readClause_210 {X : Sx} {l : Launch} {D : Nat} {x1 : Int32} {x2 : Int32} {y0 : Int32} {y1 : Int32} {σ : AH} {σ' : AH} (hD : 7 ≤ D) (hs : Sh σ) (h : F_X12_readClause_210 x1 x2 y0 y1 σ = some σ') : W_X12_readClause_210 X l D x1 x2 y0 y1 σ none σ' := by
  unfold F_X12_readClause_210 at h
  unfold W_X12_readClause_210
  obtain ⟨g1, h⟩ := of_gd h
  refine ⟨(inB_mp g1), ?_⟩
  refine ite_i (fun c2 => ?_) (fun c2 => ?_)
  · replace h := of_ifp h c2
    obtain ⟨v70, σ66, q3, h⟩ := of_bd h
    have hC4 := f_X12_materialAt (σ := (sI σ 129 y1.toNatClampNeg y0)) hs  q3 (X := X) (l := l)
    have hs5 := hC4.1.2.2.2.1 hs
    refine ⟨1, v70, σ66, (Nat.le_trans (by decide) hD), hC4, ?_⟩
    obtain ⟨v76, σ72, q6, h⟩ := of_bd h
    have hC7 := f_X12_choice (σ := σ66) hs5  q6 (X := X) (l := l)
    have hs8 := hC7.1.2.2.2.1 hs5
    refine ⟨3, v76, σ72, (Nat.le_trans (by decide) hD), hC7, ?_⟩
    exact t_X12_readClause_235 hD  hs8  h
  · replace h := of_ifn h c2
    exact t_X12_readClause_235 hD  hs  h
set_option maxRecDepth 100000 in
theorem t_X12_readClause_198 {X : Sx} {l : Launch} {D : Nat} {x1 : Int32} {x2 : Int32} {y0 : Int32} {σ : AH} {σ' : AH} (hD : 7 ≤ D) (hs : Sh σ) (h : F_X12_readClause_198 x1 x2 y0 σ = some σ') : W_X12_readClause_198 X l D x1 x2 y0 σ none σ' := by
  unfold F_X12_readClause_198 at h
  unfold W_X12_readClause_198
  obtain ⟨v57, σ53, q1, h⟩ := of_bd h
  have hC2 := f_X12_stageAt (σ := σ) hs  q1 (X := X) (l := l)
  have hs3 := hC2.1.2.2.2.1 hs
  refine ⟨1, v57, σ53, (Nat.le_trans (by decide) hD), hC2, ?_⟩
  obtain ⟨v63, σ59, q4, h⟩ := of_bd h
  have hC5 := f_X12_choice (σ := σ53) hs3  q4 (X := X) (l := l)
  have hs6 := hC5.1.2.2.2.1 hs3
  refine ⟨3, v63, σ59, (Nat.le_trans (by decide) hD), hC5, ?_⟩
  exact t_X12_readClause_210 hD  hs6  h
set_option maxRecDepth 100000 in
theorem t_X12_readClause_180 {X : Sx} {l : Launch} {D : Nat} {x1 : Int32} {x2 : Int32} {y0 : Int32} {y1 : Int32} {σ : AH} {σ' : AH} (hD : 7 ≤ D) (hs : Sh σ) (h : F_X12_readClause_180 x1 x2 y0 y1 σ = some σ') : W_X12_readClause_180 X l D x1 x2 y0 y1 σ none σ' := by
  unfold F_X12_readClause_180 at h
  unfold W_X12_readClause_180
  obtain ⟨g1, h⟩ := of_gd h
  refine ⟨(inB_mp g1), ?_⟩
  refine ite_i (fun c2 => ?_) (fun c2 => ?_)
  · replace h := of_ifp h c2
    exact t_X12_readClause_198 hD  hs  h
  · replace h := of_ifn h c2
    refine ite_i (fun c3 => ?_) (fun c3 => ?_)
    · replace h := of_ifp h c3
      exact t_X12_readClause_198 hD  hs  h
    · replace h := of_ifn h c3
      exact t_X12_readClause_210 hD  hs  h
set_option maxRecDepth 100000 in
theorem t_X12_readClause_156 {X : Sx} {l : Launch} {D : Nat} {x1 : Int32} {x2 : Int32} {y0 : Int32} {σ : AH} {σ' : AH} (hD : 7 ≤ D) (hs : Sh σ) (h : F_X12_readClause_156 x1 x2 y0 σ = some σ') : W_X12_readClause_156 X l D x1 x2 y0 σ none σ' := by
  unfold F_X12_readClause_156 at h
  unfold W_X12_readClause_156
  refine ite_i (fun c1 => ?_) (fun c1 => ?_)
  · replace h := of_ifp h c1
    exact t_X12_readClause_180 hD  hs  h
  · replace h := of_ifn h c1
    obtain ⟨v44, σ40, q2, h⟩ := of_bd h
    have hC3 := f_X12_kindAt (σ := σ) hs  q2 (X := X) (l := l)
    have hs4 := hC3.1.2.2.2.1 hs
    refine ⟨1, v44, σ40, (Nat.le_trans (by decide) hD), hC3, ?_⟩
    obtain ⟨v50, σ46, q5, h⟩ := of_bd h
    have hC6 := f_X12_choice (σ := σ40) hs4  q5 (X := X) (l := l)
    have hs7 := hC6.1.2.2.2.1 hs4
    refine ⟨3, v50, σ46, (Nat.le_trans (by decide) hD), hC6, ?_⟩
    exact t_X12_readClause_180 hD  hs7  h
set_option maxRecDepth 100000 in
theorem t_X12_readClause_151 {X : Sx} {l : Launch} {D : Nat} {x1 : Int32} {x2 : Int32} {σ : AH} {σ' : AH} (hD : 7 ≤ D) (hs : Sh σ) (h : F_X12_readClause_151 x1 x2 σ = some σ') : W_X12_readClause_151 X l D x1 x2 σ none σ' := by
  unfold F_X12_readClause_151 at h
  unfold W_X12_readClause_151
  exact t_X12_readClause_156 hD  hs  h
set_option maxRecDepth 100000 in
theorem t_X12_readClause_46 {X : Sx} {l : Launch} {D : Nat} {k_X12_readClause_46 : Int32 → Int32 → Int32 → AH → Option AH} {x1 : Int32} {x2 : Int32} {x3 : Int32} {σ : AH} {σ' : AH} (hD : 7 ≤ D) (hk_X12_readClause_46 : ∀ (x1 : Int32) (x2 : Int32) (x3 : Int32) (σ : AH) (σ' : AH), Sh σ → k_X12_readClause_46 x1 x2 x3 σ = some σ' → E X l m_X12_readClause D 46 [(0, .ref 124), (1, .int x1), (2, .int x2), (3, .int x3)] [] σ none σ') (hs : Sh σ) (h : B_X12_readClause_46 k_X12_readClause_46 x1 x2 x3 σ = some σ') : W_X12_readClause_46 X l D x1 x2 x3 σ none σ' := by
  unfold B_X12_readClause_46 at h
  unfold W_X12_readClause_46
  refine ite_i (fun c1 => ?_) (fun c1 => ?_)
  · replace h := of_ifp h c1
    obtain ⟨g2, h⟩ := of_gd h
    refine ⟨(inB_mp g2), ?_⟩
    refine ite_i (fun c3 => ?_) (fun c3 => ?_)
    · replace h := of_ifp h c3
      obtain ⟨v18, σ14, q4, h⟩ := of_bd h
      have hC5 := f_X12_number (σ := (sI (sI σ 129 x2.toNatClampNeg x1) 124 13 ((gI (sI σ 129 x2.toNatClampNeg x1) 124 13) + (1 : Int32)))) hs  q4 (X := X) (l := l)
      have hs6 := hC5.1.2.2.2.1 hs
      refine ⟨3, v18, σ14, (Nat.le_trans (by decide) hD), hC5, ?_⟩
      obtain ⟨g7, h⟩ := of_gd h
      refine ⟨(inB_mp g7), ?_⟩
      obtain ⟨v25, σ21, q8, h⟩ := of_bd h
      have hC9 := f_X12_isWord (σ := (sI σ14 129 ((x2 + (1 : Int32)).toNatClampNeg) v18)) hs6  q8 (X := X) (l := l)
      have hs10 := hC9.1.2.2.2.1 hs6
      refine ⟨0, v25, σ21, (Nat.le_trans (by decide) hD), hC9, ?_⟩
      obtain ⟨σ27, q11, h⟩ := of_bv h
      have hC12 := f_X12_must (σ := σ21) hs10  q11 (X := X) (l := l)
      have hs13 := hC12.1.2.2.2.1 hs10
      refine ⟨2, σ27, (Nat.le_trans (by decide) hD), hC12, ?_⟩
      obtain ⟨v36, σ32, q14, h⟩ := of_bd h
      have hC15 := f_X12_number (σ := σ27) hs13  q14 (X := X) (l := l)
      have hs16 := hC15.1.2.2.2.1 hs13
      refine ⟨3, v36, σ32, (Nat.le_trans (by decide) hD), hC15, ?_⟩
      obtain ⟨g17, h⟩ := of_gd h
      refine ⟨(inB_mp g17), ?_⟩
      exact ret_v h
    · replace h := of_ifn h c3
      refine ite_i (fun c18 => ?_) (fun c18 => ?_)
      · replace h := of_ifp h c18
        exact t_X12_readClause_151 hD  hs  h
      · replace h := of_ifn h c18
        refine ite_i (fun c19 => ?_) (fun c19 => ?_)
        · replace h := of_ifp h c19
          exact t_X12_readClause_151 hD  hs  h
        · replace h := of_ifn h c19
          refine ite_i (fun c20 => ?_) (fun c20 => ?_)
          · replace h := of_ifp h c20
            exact t_X12_readClause_151 hD  hs  h
          · replace h := of_ifn h c20
            refine ite_i (fun c21 => ?_) (fun c21 => ?_)
            · replace h := of_ifp h c21
              exact t_X12_readClause_151 hD  hs  h
            · replace h := of_ifn h c21
              exact t_X12_readClause_156 hD  hs  h
  · replace h := of_ifn h c1
    obtain ⟨g22, h⟩ := of_gd h
    refine ⟨(inB_mp g22), ?_⟩
    exact hk_X12_readClause_46 _ _ _ _ _ hs  h
theorem e_X12_readClause_46 {X : Sx} {l : Launch} {D : Nat} (hD : 7 ≤ D) : ∀ (k : Nat) (x1 : Int32) (x2 : Int32) (x3 : Int32) (σ : AH) (σ' : AH), Sh σ → F_X12_readClause_46 k x1 x2 x3 σ = some σ' → E X l m_X12_readClause D 46 [(0, .ref 124), (1, .int x1), (2, .int x2), (3, .int x3)] [] σ none σ' := by
  intro k
  induction k with
  | zero => intro x1 x2 x3 σ σ' hs h; cases h
  | succ k ih =>
    intro x1 x2 x3 σ σ' hs h
    exact w_X12_readClause_46 hs  (t_X12_readClause_46 hD ih hs  h)
set_option maxRecDepth 100000 in
theorem t_X12_readClause_25 {X : Sx} {l : Launch} {D : Nat} {x1 : Int32} {y0 : Int32} {σ : AH} {σ' : AH} (hD : 7 ≤ D) (hs : Sh σ) (h : F_X12_readClause_25 x1 y0 σ = some σ') : W_X12_readClause_25 X l D x1 y0 σ none σ' := by
  unfold F_X12_readClause_25 at h
  unfold W_X12_readClause_25
  obtain ⟨σ8, q1, h⟩ := of_bv h
  have hC2 := f_X12_must (σ := σ) hs  q1 (X := X) (l := l)
  have hs3 := hC2.1.2.2.2.1 hs
  refine ⟨2, σ8, (Nat.le_trans (by decide) hD), hC2, ?_⟩
  refine ite_i (fun c4 => ?_) (fun c4 => ?_)
  · replace h := of_ifp h c4
    exact e_X12_readClause_46 hD  _ _ _ _ _ _ hs3  h
  · replace h := of_ifn h c4
    exact ret_v h
set_option maxRecDepth 100000 in
theorem t_X12_readClause_24 {X : Sx} {l : Launch} {D : Nat} {x1 : Int32} {σ : AH} {σ' : AH} (hD : 7 ≤ D) (hs : Sh σ) (h : F_X12_readClause_24 x1 σ = some σ') : W_X12_readClause_24 X l D x1 σ none σ' := by
  unfold F_X12_readClause_24 at h
  unfold W_X12_readClause_24
  exact t_X12_readClause_25 hD  hs  h
set_option maxRecDepth 100000 in
theorem t_X12_readClause_0 {X : Sx} {l : Launch} {D : Nat} {σ : AH} {σ' : AH} (hD : 7 ≤ D) (hs : Sh σ) (h : F_X12_readClause σ = some σ') : W_X12_readClause_0 X l D σ none σ' := by
  unfold F_X12_readClause at h
  unfold W_X12_readClause_0
  obtain ⟨v6, σ2, q1, h⟩ := of_bd h
  have hC2 := f_X12_headAt (σ := σ) hs  q1 (X := X) (l := l)
  have hs3 := hC2.1.2.2.2.1 hs
  refine ⟨1, v6, σ2, (Nat.le_trans (by decide) hD), hC2, ?_⟩
  refine ite_i (fun c4 => ?_) (fun c4 => ?_)
  · replace h := of_ifp h c4
    exact t_X12_readClause_24 hD  hs3  h
  · replace h := of_ifn h c4
    refine ite_i (fun c5 => ?_) (fun c5 => ?_)
    · replace h := of_ifp h c5
      exact t_X12_readClause_24 hD  hs3  h
    · replace h := of_ifn h c5
      exact t_X12_readClause_25 hD  hs3  h
theorem f_X12_readClause {X : Sx} {l : Launch} {σ : AH} {σ' : AH} (hs : Sh σ) (h : F_X12_readClause σ = some σ') : Call X l m_X12_readClause 7 [.ref 124] σ none σ' :=
  Call.ofE ok_X12_readClause rfl (Nat.le_of_ble_eq_true rfl) (w_X12_readClause_0 hs  (t_X12_readClause_0 (Nat.le_refl _) hs  h))
def F_X12_actAt (x0 : Int32) (σ : AH) : Option (Int32 × AH) := (some (((20 : Int32) + ((947 : Int32) * x0)), σ))
set_option maxRecDepth 100000 in
theorem t_X12_actAt_0 {X : Sx} {l : Launch} {D : Nat} {x0 : Int32} {σ : AH} {v : Int32} {σ' : AH} (hD : 0 ≤ D) (hs : Sh σ) (h : F_X12_actAt x0 σ = some (v, σ')) : W_X12_actAt_0 X l D x0 σ (some (.int v)) σ' := by
  unfold F_X12_actAt at h
  unfold W_X12_actAt_0
  exact ret_i h
theorem f_X12_actAt {X : Sx} {l : Launch} {x0 : Int32} {σ : AH} {v : Int32} {σ' : AH} (hs : Sh σ) (h : F_X12_actAt x0 σ = some (v, σ')) : Call X l m_X12_actAt 0 [.int x0] σ (some (.int v)) σ' :=
  Call.ofE ok_X12_actAt rfl (Nat.le_of_ble_eq_true rfl) (w_X12_actAt_0 hs  (t_X12_actAt_0 (Nat.le_refl _) hs  h))
def F_X12_act_56 (y0 : Int32) (σ : AH) : Option (Int32 × AH) := (bd (F_X12_told y0 σ) fun v44 σ40 => (some (v44, σ40)))
def F_X12_act_40 (x3 : Int32) (σ : AH) : Option (Int32 × AH) := (if x3 = 0 then (F_X12_act_56 (-1 : Int32) (sI σ 124 6 (0 : Int32))) else (F_X12_act_56 (-5 : Int32) (sI σ 124 6 (0 : Int32))))
def B_X12_act_233 (k_X12_act_233 : Int32 → Int32 → AH → Option (Int32 × AH)) (x4 : Int32) (x5 : Int32) (σ : AH) : Option (Int32 × AH) := (if (gI σ 124 15) ≤ x5 then (bd (F_X12_told ((gI (sI σ 125 0 ((gI σ 125 0) + (1 : Int32))) 125 0) - (1 : Int32)) (sI σ 125 0 ((gI σ 125 0) + (1 : Int32)))) fun v75 σ71 => (some (v75, σ71))) else (if inB x5 400 = true then (if inB ((x4 + (147 : Int32)) + ((2 : Int32) * x5)) 269832 = true then (if inB x5 400 = true then (if inB (((x4 + (147 : Int32)) + ((2 : Int32) * x5)) + (1 : Int32)) 269832 = true then (lt (sI (sI σ 125 (((x4 + (147 : Int32)) + ((2 : Int32) * x5)).toNatClampNeg) (gI σ 130 x5.toNatClampNeg)) 125 ((((x4 + (147 : Int32)) + ((2 : Int32) * x5)) + (1 : Int32)).toNatClampNeg) (gI (sI σ 125 (((x4 + (147 : Int32)) + ((2 : Int32) * x5)).toNatClampNeg) (gI σ 130 x5.toNatClampNeg)) 131 x5.toNatClampNeg)) fun τ80 => (k_X12_act_233 x4 (x5 + 1) τ80)) else none) else none) else none) else none))
def F_X12_act_233 : Nat → Int32 → Int32 → AH → Option (Int32 × AH) := fun k => match k with | 0 => fun _ _ _ => none | k + 1 => B_X12_act_233 (F_X12_act_233 k)
def B_X12_act_193 (k_X12_act_193 : Int32 → Int32 → AH → Option (Int32 × AH)) (x4 : Int32) (x5 : Int32) (σ : AH) : Option (Int32 × AH) := (if ((9 : Int32) * (gI σ 124 13)) ≤ x5 then (F_X12_act_233 BIG x4 (0 : Int32) σ) else (if inB x5 144 = true then (if inB ((x4 + (3 : Int32)) + x5) 269832 = true then (k_X12_act_193 x4 (x5 + 1) (sI σ 125 (((x4 + (3 : Int32)) + x5).toNatClampNeg) (gI σ 129 x5.toNatClampNeg))) else none) else none))
def F_X12_act_193 : Nat → Int32 → Int32 → AH → Option (Int32 × AH) := fun k => match k with | 0 => fun _ _ _ => none | k + 1 => B_X12_act_193 (F_X12_act_193 k)
def F_X12_act_129 (x1 : Int32) (x2 : Int32) (σ : AH) : Option (Int32 × AH) := (if (gI (sI σ 124 6 (0 : Int32)) 124 12) = 0 then (bd (F_X12_actAt (gI (sI σ 124 6 (0 : Int32)) 125 0) (sI σ 124 6 (0 : Int32))) fun v55 σ51 => (if inB v55 269832 = true then (if inB (v55 + (1 : Int32)) 269832 = true then (if inB (v55 + (2 : Int32)) 269832 = true then (lt (sI (sI (sI σ51 125 v55.toNatClampNeg x1) 125 ((v55 + (1 : Int32)).toNatClampNeg) x2) 125 ((v55 + (2 : Int32)).toNatClampNeg) (gI (sI (sI σ51 125 v55.toNatClampNeg x1) 125 ((v55 + (1 : Int32)).toNatClampNeg) x2) 124 13)) fun τ59 => (F_X12_act_193 BIG v55 (0 : Int32) τ59)) else none) else none) else none)) else (bd (F_X12_told (-6 : Int32) (sI σ 124 6 (0 : Int32))) fun v67 σ63 => (some (v67, σ63))))
def F_X12_act_110 (x1 : Int32) (x2 : Int32) (σ : AH) : Option (Int32 × AH) := (if (gI σ 124 12) = 0 then (if (gI σ 124 9) = 0 then (F_X12_act_129 x1 x2 σ) else (bv (F_X12_must (0 : Int32) σ) fun σ46 => (F_X12_act_129 x1 x2 σ46))) else (F_X12_act_129 x1 x2 σ))
def B_X12_act_83 (k_X12_act_83 : Int32 → Int32 → AH → Option (Int32 × AH)) (x1 : Int32) (x2 : Int32) (σ : AH) : Option (Int32 × AH) := (if (gI σ 124 12) = 0 then (bd (F_X12_isSign (59 : Int32) σ) fun v28 σ24 => (if v28 = 0 then (F_X12_act_110 x1 x2 σ24) else (bv (F_X12_next σ24) fun σ30 => (bv (F_X12_readClause σ30) fun σ35 => (k_X12_act_83 x1 x2 σ35))))) else (F_X12_act_110 x1 x2 σ))
def F_X12_act_83 : Nat → Int32 → Int32 → AH → Option (Int32 × AH) := fun k => match k with | 0 => fun _ _ _ => none | k + 1 => B_X12_act_83 (F_X12_act_83 k)
def F_X12_act_24 (x1 : Int32) (x2 : Int32) (y0 : Int32) (σ : AH) : Option (Int32 × AH) := (if y0 = 0 then (F_X12_act_40 y0 σ) else (if (gI σ 125 0) = (24 : Int32) then (F_X12_act_40 y0 σ) else (bv (F_X12_begin σ) fun σ14 => (bv (F_X12_readClause (sI (sI (sI σ14 124 13 (0 : Int32)) 124 15 (0 : Int32)) 124 18 (0 : Int32))) fun σ19 => (F_X12_act_83 BIG x1 x2 σ19)))))
def F_X12_act_23 (x1 : Int32) (x2 : Int32) (σ : AH) : Option (Int32 × AH) := (F_X12_act_24 x1 x2 (0 : Int32) σ)
def F_X12_act (x1 : Int32) (x2 : Int32) (σ : AH) : Option (Int32 × AH) := (bd (F_X12_isWeek x1 (sI σ 124 0 (0 : Int32))) fun v6 σ2 => (if v6 = 0 then (F_X12_act_23 x1 x2 σ2) else (bd (F_X12_isWeek x2 σ2) fun v12 σ8 => (if v12 = 0 then (F_X12_act_23 x1 x2 σ8) else (F_X12_act_24 x1 x2 (1 : Int32) σ8)))))
set_option maxRecDepth 100000 in
theorem t_X12_act_56 {X : Sx} {l : Launch} {D : Nat} {y0 : Int32} {σ : AH} {v : Int32} {σ' : AH} (hD : 8 ≤ D) (hs : Sh σ) (h : F_X12_act_56 y0 σ = some (v, σ')) : W_X12_act_56 X l D y0 σ (some (.int v)) σ' := by
  unfold F_X12_act_56 at h
  unfold W_X12_act_56
  obtain ⟨v44, σ40, q1, h⟩ := of_bd h
  have hC2 := f_X12_told (σ := σ) hs  q1 (X := X) (l := l)
  have hs3 := hC2.1.2.2.2.1 hs
  refine ⟨0, v44, σ40, (Nat.le_trans (by decide) hD), hC2, ?_⟩
  exact ret_i h
set_option maxRecDepth 100000 in
theorem t_X12_act_40 {X : Sx} {l : Launch} {D : Nat} {x3 : Int32} {σ : AH} {v : Int32} {σ' : AH} (hD : 8 ≤ D) (hs : Sh σ) (h : F_X12_act_40 x3 σ = some (v, σ')) : W_X12_act_40 X l D x3 σ (some (.int v)) σ' := by
  unfold F_X12_act_40 at h
  unfold W_X12_act_40
  refine ite_i (fun c1 => ?_) (fun c1 => ?_)
  · replace h := of_ifp h c1
    exact t_X12_act_56 hD  hs  h
  · replace h := of_ifn h c1
    exact t_X12_act_56 hD  hs  h
set_option maxRecDepth 100000 in
theorem t_X12_act_233 {X : Sx} {l : Launch} {D : Nat} {k_X12_act_233 : Int32 → Int32 → AH → Option (Int32 × AH)} {x4 : Int32} {x5 : Int32} {σ : AH} {v : Int32} {σ' : AH} (hD : 8 ≤ D) (hk_X12_act_233 : ∀ (x4 : Int32) (x5 : Int32) (σ : AH) (v : Int32) (σ' : AH), Sh σ → k_X12_act_233 x4 x5 σ = some (v, σ') → E X l m_X12_act D 233 [(0, .ref 124), (4, .int x4), (5, .int x5)] [] σ (some (.int v)) σ') (hs : Sh σ) (h : B_X12_act_233 k_X12_act_233 x4 x5 σ = some (v, σ')) : W_X12_act_233 X l D x4 x5 σ (some (.int v)) σ' := by
  unfold B_X12_act_233 at h
  unfold W_X12_act_233
  refine ite_i (fun c1 => ?_) (fun c1 => ?_)
  · replace h := of_ifp h c1
    obtain ⟨v75, σ71, q2, h⟩ := of_bd h
    have hC3 := f_X12_told (σ := (sI σ 125 0 ((gI σ 125 0) + (1 : Int32)))) hs  q2 (X := X) (l := l)
    have hs4 := hC3.1.2.2.2.1 hs
    refine ⟨0, v75, σ71, (Nat.le_trans (by decide) hD), hC3, ?_⟩
    exact ret_i h
  · replace h := of_ifn h c1
    obtain ⟨g5, h⟩ := of_gd h
    refine ⟨(inB_mp g5), ?_⟩
    obtain ⟨g6, h⟩ := of_gd h
    refine ⟨(inB_mp g6), ?_⟩
    obtain ⟨g7, h⟩ := of_gd h
    refine ⟨(inB_mp g7), ?_⟩
    obtain ⟨g8, h⟩ := of_gd h
    refine ⟨(inB_mp g8), ?_⟩
    intro τ80 e9
    replace h := of_lt h e9
    have hs10 : Sh τ80 := by rw [e9]; exact hs
    exact hk_X12_act_233 _ _ _ _ _ hs10  h
theorem e_X12_act_233 {X : Sx} {l : Launch} {D : Nat} (hD : 8 ≤ D) : ∀ (k : Nat) (x4 : Int32) (x5 : Int32) (σ : AH) (v : Int32) (σ' : AH), Sh σ → F_X12_act_233 k x4 x5 σ = some (v, σ') → E X l m_X12_act D 233 [(0, .ref 124), (4, .int x4), (5, .int x5)] [] σ (some (.int v)) σ' := by
  intro k
  induction k with
  | zero => intro x4 x5 σ v σ' hs h; cases h
  | succ k ih =>
    intro x4 x5 σ v σ' hs h
    exact w_X12_act_233 hs  (t_X12_act_233 hD ih hs  h)
set_option maxRecDepth 100000 in
theorem t_X12_act_193 {X : Sx} {l : Launch} {D : Nat} {k_X12_act_193 : Int32 → Int32 → AH → Option (Int32 × AH)} {x4 : Int32} {x5 : Int32} {σ : AH} {v : Int32} {σ' : AH} (hD : 8 ≤ D) (hk_X12_act_193 : ∀ (x4 : Int32) (x5 : Int32) (σ : AH) (v : Int32) (σ' : AH), Sh σ → k_X12_act_193 x4 x5 σ = some (v, σ') → E X l m_X12_act D 193 [(0, .ref 124), (4, .int x4), (5, .int x5)] [] σ (some (.int v)) σ') (hs : Sh σ) (h : B_X12_act_193 k_X12_act_193 x4 x5 σ = some (v, σ')) : W_X12_act_193 X l D x4 x5 σ (some (.int v)) σ' := by
  unfold B_X12_act_193 at h
  unfold W_X12_act_193
  refine ite_i (fun c1 => ?_) (fun c1 => ?_)
  · replace h := of_ifp h c1
    exact e_X12_act_233 hD  _ _ _ _ _ _ hs  h
  · replace h := of_ifn h c1
    obtain ⟨g2, h⟩ := of_gd h
    refine ⟨(inB_mp g2), ?_⟩
    obtain ⟨g3, h⟩ := of_gd h
    refine ⟨(inB_mp g3), ?_⟩
    exact hk_X12_act_193 _ _ _ _ _ hs  h
theorem e_X12_act_193 {X : Sx} {l : Launch} {D : Nat} (hD : 8 ≤ D) : ∀ (k : Nat) (x4 : Int32) (x5 : Int32) (σ : AH) (v : Int32) (σ' : AH), Sh σ → F_X12_act_193 k x4 x5 σ = some (v, σ') → E X l m_X12_act D 193 [(0, .ref 124), (4, .int x4), (5, .int x5)] [] σ (some (.int v)) σ' := by
  intro k
  induction k with
  | zero => intro x4 x5 σ v σ' hs h; cases h
  | succ k ih =>
    intro x4 x5 σ v σ' hs h
    exact w_X12_act_193 hs  (t_X12_act_193 hD ih hs  h)
set_option maxRecDepth 100000 in
theorem t_X12_act_129 {X : Sx} {l : Launch} {D : Nat} {x1 : Int32} {x2 : Int32} {σ : AH} {v : Int32} {σ' : AH} (hD : 8 ≤ D) (hs : Sh σ) (h : F_X12_act_129 x1 x2 σ = some (v, σ')) : W_X12_act_129 X l D x1 x2 σ (some (.int v)) σ' := by
  unfold F_X12_act_129 at h
  unfold W_X12_act_129
  refine ite_i (fun c1 => ?_) (fun c1 => ?_)
  · replace h := of_ifp h c1
    obtain ⟨v55, σ51, q2, h⟩ := of_bd h
    have hC3 := f_X12_actAt (σ := (sI σ 124 6 (0 : Int32))) hs  q2 (X := X) (l := l)
    have hs4 := hC3.1.2.2.2.1 hs
    refine ⟨0, v55, σ51, (Nat.le_trans (by decide) hD), hC3, ?_⟩
    obtain ⟨g5, h⟩ := of_gd h
    refine ⟨(inB_mp g5), ?_⟩
    obtain ⟨g6, h⟩ := of_gd h
    refine ⟨(inB_mp g6), ?_⟩
    obtain ⟨g7, h⟩ := of_gd h
    refine ⟨(inB_mp g7), ?_⟩
    intro τ59 e8
    replace h := of_lt h e8
    have hs9 : Sh τ59 := by rw [e8]; exact hs4
    exact e_X12_act_193 hD  _ _ _ _ _ _ hs9  h
  · replace h := of_ifn h c1
    obtain ⟨v67, σ63, q10, h⟩ := of_bd h
    have hC11 := f_X12_told (σ := (sI σ 124 6 (0 : Int32))) hs  q10 (X := X) (l := l)
    have hs12 := hC11.1.2.2.2.1 hs
    refine ⟨0, v67, σ63, (Nat.le_trans (by decide) hD), hC11, ?_⟩
    exact ret_i h
set_option maxRecDepth 100000 in
theorem t_X12_act_110 {X : Sx} {l : Launch} {D : Nat} {x1 : Int32} {x2 : Int32} {σ : AH} {v : Int32} {σ' : AH} (hD : 8 ≤ D) (hs : Sh σ) (h : F_X12_act_110 x1 x2 σ = some (v, σ')) : W_X12_act_110 X l D x1 x2 σ (some (.int v)) σ' := by
  unfold F_X12_act_110 at h
  unfold W_X12_act_110
  refine ite_i (fun c1 => ?_) (fun c1 => ?_)
  · replace h := of_ifp h c1
    refine ite_i (fun c2 => ?_) (fun c2 => ?_)
    · replace h := of_ifp h c2
      exact t_X12_act_129 hD  hs  h
    · replace h := of_ifn h c2
      obtain ⟨σ46, q3, h⟩ := of_bv h
      have hC4 := f_X12_must (σ := σ) hs  q3 (X := X) (l := l)
      have hs5 := hC4.1.2.2.2.1 hs
      refine ⟨2, σ46, (Nat.le_trans (by decide) hD), hC4, ?_⟩
      exact t_X12_act_129 hD  hs5  h
  · replace h := of_ifn h c1
    exact t_X12_act_129 hD  hs  h
set_option maxRecDepth 100000 in
theorem t_X12_act_83 {X : Sx} {l : Launch} {D : Nat} {k_X12_act_83 : Int32 → Int32 → AH → Option (Int32 × AH)} {x1 : Int32} {x2 : Int32} {σ : AH} {v : Int32} {σ' : AH} (hD : 8 ≤ D) (hk_X12_act_83 : ∀ (x1 : Int32) (x2 : Int32) (σ : AH) (v : Int32) (σ' : AH), Sh σ → k_X12_act_83 x1 x2 σ = some (v, σ') → E X l m_X12_act D 83 [(0, .ref 124), (1, .int x1), (2, .int x2)] [] σ (some (.int v)) σ') (hs : Sh σ) (h : B_X12_act_83 k_X12_act_83 x1 x2 σ = some (v, σ')) : W_X12_act_83 X l D x1 x2 σ (some (.int v)) σ' := by
  unfold B_X12_act_83 at h
  unfold W_X12_act_83
  refine ite_i (fun c1 => ?_) (fun c1 => ?_)
  · replace h := of_ifp h c1
    obtain ⟨v28, σ24, q2, h⟩ := of_bd h
    have hC3 := f_X12_isSign (σ := σ) hs  q2 (X := X) (l := l)
    have hs4 := hC3.1.2.2.2.1 hs
    refine ⟨0, v28, σ24, (Nat.le_trans (by decide) hD), hC3, ?_⟩
    refine ite_i (fun c5 => ?_) (fun c5 => ?_)
    · replace h := of_ifp h c5
      exact t_X12_act_110 hD  hs4  h
    · replace h := of_ifn h c5
      obtain ⟨σ30, q6, h⟩ := of_bv h
      have hC7 := f_X12_next (σ := σ24) hs4  q6 (X := X) (l := l)
      have hs8 := hC7.1.2.2.2.1 hs4
      refine ⟨1, σ30, (Nat.le_trans (by decide) hD), hC7, ?_⟩
      obtain ⟨σ35, q9, h⟩ := of_bv h
      have hC10 := f_X12_readClause (σ := σ30) hs8  q9 (X := X) (l := l)
      have hs11 := hC10.1.2.2.2.1 hs8
      refine ⟨7, σ35, (Nat.le_trans (by decide) hD), hC10, ?_⟩
      exact hk_X12_act_83 _ _ _ _ _ hs11  h
  · replace h := of_ifn h c1
    exact t_X12_act_110 hD  hs  h
theorem e_X12_act_83 {X : Sx} {l : Launch} {D : Nat} (hD : 8 ≤ D) : ∀ (k : Nat) (x1 : Int32) (x2 : Int32) (σ : AH) (v : Int32) (σ' : AH), Sh σ → F_X12_act_83 k x1 x2 σ = some (v, σ') → E X l m_X12_act D 83 [(0, .ref 124), (1, .int x1), (2, .int x2)] [] σ (some (.int v)) σ' := by
  intro k
  induction k with
  | zero => intro x1 x2 σ v σ' hs h; cases h
  | succ k ih =>
    intro x1 x2 σ v σ' hs h
    exact w_X12_act_83 hs  (t_X12_act_83 hD ih hs  h)
set_option maxRecDepth 100000 in
theorem t_X12_act_24 {X : Sx} {l : Launch} {D : Nat} {x1 : Int32} {x2 : Int32} {y0 : Int32} {σ : AH} {v : Int32} {σ' : AH} (hD : 8 ≤ D) (hs : Sh σ) (h : F_X12_act_24 x1 x2 y0 σ = some (v, σ')) : W_X12_act_24 X l D x1 x2 y0 σ (some (.int v)) σ' := by
  unfold F_X12_act_24 at h
  unfold W_X12_act_24
  refine ite_i (fun c1 => ?_) (fun c1 => ?_)
  · replace h := of_ifp h c1
    exact t_X12_act_40 hD  hs  h
  · replace h := of_ifn h c1
    refine ite_i (fun c2 => ?_) (fun c2 => ?_)
    · replace h := of_ifp h c2
      exact t_X12_act_40 hD  hs  h
    · replace h := of_ifn h c2
      obtain ⟨σ14, q3, h⟩ := of_bv h
      have hC4 := f_X12_begin (σ := σ) hs  q3 (X := X) (l := l)
      have hs5 := hC4.1.2.2.2.1 hs
      refine ⟨2, σ14, (Nat.le_trans (by decide) hD), hC4, ?_⟩
      obtain ⟨σ19, q6, h⟩ := of_bv h
      have hC7 := f_X12_readClause (σ := (sI (sI (sI σ14 124 13 (0 : Int32)) 124 15 (0 : Int32)) 124 18 (0 : Int32))) hs5  q6 (X := X) (l := l)
      have hs8 := hC7.1.2.2.2.1 hs5
      refine ⟨7, σ19, (Nat.le_trans (by decide) hD), hC7, ?_⟩
      exact e_X12_act_83 hD  _ _ _ _ _ _ hs8  h
set_option maxRecDepth 100000 in
theorem t_X12_act_23 {X : Sx} {l : Launch} {D : Nat} {x1 : Int32} {x2 : Int32} {σ : AH} {v : Int32} {σ' : AH} (hD : 8 ≤ D) (hs : Sh σ) (h : F_X12_act_23 x1 x2 σ = some (v, σ')) : W_X12_act_23 X l D x1 x2 σ (some (.int v)) σ' := by
  unfold F_X12_act_23 at h
  unfold W_X12_act_23
  exact t_X12_act_24 hD  hs  h
set_option maxRecDepth 100000 in
theorem t_X12_act_0 {X : Sx} {l : Launch} {D : Nat} {x1 : Int32} {x2 : Int32} {σ : AH} {v : Int32} {σ' : AH} (hD : 8 ≤ D) (hs : Sh σ) (h : F_X12_act x1 x2 σ = some (v, σ')) : W_X12_act_0 X l D x1 x2 σ (some (.int v)) σ' := by
  unfold F_X12_act at h
  unfold W_X12_act_0
  obtain ⟨v6, σ2, q1, h⟩ := of_bd h
  have hC2 := f_X12_isWeek (σ := (sI σ 124 0 (0 : Int32))) hs  q1 (X := X) (l := l)
  have hs3 := hC2.1.2.2.2.1 hs
  refine ⟨1, v6, σ2, (Nat.le_trans (by decide) hD), hC2, ?_⟩
  refine ite_i (fun c4 => ?_) (fun c4 => ?_)
  · replace h := of_ifp h c4
    exact t_X12_act_23 hD  hs3  h
  · replace h := of_ifn h c4
    obtain ⟨v12, σ8, q5, h⟩ := of_bd h
    have hC6 := f_X12_isWeek (σ := σ2) hs3  q5 (X := X) (l := l)
    have hs7 := hC6.1.2.2.2.1 hs3
    refine ⟨1, v12, σ8, (Nat.le_trans (by decide) hD), hC6, ?_⟩
    refine ite_i (fun c8 => ?_) (fun c8 => ?_)
    · replace h := of_ifp h c8
      exact t_X12_act_23 hD  hs7  h
    · replace h := of_ifn h c8
      exact t_X12_act_24 hD  hs7  h
theorem f_X12_act {X : Sx} {l : Launch} {x1 : Int32} {x2 : Int32} {σ : AH} {v : Int32} {σ' : AH} (hs : Sh σ) (h : F_X12_act x1 x2 σ = some (v, σ')) : Call X l m_X12_act 8 [.ref 124, .int x1, .int x2] σ (some (.int v)) σ' :=
  Call.ofE ok_X12_act rfl (Nat.le_of_ble_eq_true rfl) (w_X12_act_0 hs  (t_X12_act_0 (Nat.le_refl _) hs  h))
def F_X12_clauseAt (x0 : Int32) (x1 : Int32) (σ : AH) : Option (Int32 × AH) := (bd (F_X12_actAt x0 σ) fun v6 σ2 => (some (((v6 + (3 : Int32)) + ((9 : Int32) * x1)), σ2)))
set_option maxRecDepth 100000 in
theorem t_X12_clauseAt_0 {X : Sx} {l : Launch} {D : Nat} {x0 : Int32} {x1 : Int32} {σ : AH} {v : Int32} {σ' : AH} (hD : 1 ≤ D) (hs : Sh σ) (h : F_X12_clauseAt x0 x1 σ = some (v, σ')) : W_X12_clauseAt_0 X l D x0 x1 σ (some (.int v)) σ' := by
  unfold F_X12_clauseAt at h
  unfold W_X12_clauseAt_0
  obtain ⟨v6, σ2, q1, h⟩ := of_bd h
  have hC2 := f_X12_actAt (σ := σ) hs  q1 (X := X) (l := l)
  have hs3 := hC2.1.2.2.2.1 hs
  refine ⟨0, v6, σ2, (Nat.le_trans (by decide) hD), hC2, ?_⟩
  exact ret_i h
theorem f_X12_clauseAt {X : Sx} {l : Launch} {x0 : Int32} {x1 : Int32} {σ : AH} {v : Int32} {σ' : AH} (hs : Sh σ) (h : F_X12_clauseAt x0 x1 σ = some (v, σ')) : Call X l m_X12_clauseAt 1 [.int x0, .int x1] σ (some (.int v)) σ' :=
  Call.ofE ok_X12_clauseAt rfl (Nat.le_of_ble_eq_true rfl) (w_X12_clauseAt_0 hs  (t_X12_clauseAt_0 (Nat.le_refl _) hs  h))
def F_X12_findForce_195 (k_X12_findForce_45 : Int32 → Int32 → AH → Option AH) (x1 : Int32) (x2 : Int32) (σ : AH) : Option AH := (k_X12_findForce_45 x1 (x2 + (-1)) σ)
def F_X12_findForce_189 (k_X12_findForce_45 : Int32 → Int32 → AH → Option AH) (k_X12_findForce_93 : Int32 → Int32 → Int32 → Int32 → AH → Option AH) (x1 : Int32) (x2 : Int32) (x3 : Int32) (x4 : Int32) (σ : AH) : Option AH := (k_X12_findForce_93 x1 x2 x3 (x4 + 1) σ)
def B_X12_findForce_93 (k_X12_findForce_45 : Int32 → Int32 → AH → Option AH) (k_X12_findForce_93 : Int32 → Int32 → Int32 → Int32 → AH → Option AH) (x1 : Int32) (x2 : Int32) (x3 : Int32) (x4 : Int32) (σ : AH) : Option AH := (if inB (x3 + (2 : Int32)) 269832 = true then (if (gI σ 125 (x3 + (2 : Int32)).toNatClampNeg) ≤ x4 then (F_X12_findForce_195 k_X12_findForce_45 x1 x2 σ) else (if inB x2 24 = true then (if (gI σ 134 x2.toNatClampNeg) = 0 then (F_X12_findForce_195 k_X12_findForce_45 x1 x2 σ) else (bd (F_X12_clauseAt x2 x4 σ) fun v18 σ14 => (if inB v18 269832 = true then (if (gI σ14 125 v18.toNatClampNeg) = 0 then (if inB (((16 : Int32) * x2) + x4) 384 = true then (if (gI σ14 135 (((16 : Int32) * x2) + x4).toNatClampNeg) = 0 then (if inB (v18 + (1 : Int32)) 269832 = true then (if x2 ≤ (gI σ14 125 (v18 + (1 : Int32)).toNatClampNeg) then (F_X12_findForce_189 k_X12_findForce_45 k_X12_findForce_93 x1 x2 x3 x4 σ14) else (if inB (v18 + (1 : Int32)) 269832 = true then (if inB (v18 + (2 : Int32)) 269832 = true then (if inB (((16 : Int32) * (gI σ14 125 (v18 + (1 : Int32)).toNatClampNeg)) + (gI σ14 125 (v18 + (2 : Int32)).toNatClampNeg)) 384 = true then (lt (sI σ14 135 ((((16 : Int32) * (gI σ14 125 (v18 + (1 : Int32)).toNatClampNeg)) + (gI σ14 125 (v18 + (2 : Int32)).toNatClampNeg)).toNatClampNeg) (1 : Int32)) fun τ25 => (F_X12_findForce_189 k_X12_findForce_45 k_X12_findForce_93 x1 x2 x3 x4 τ25)) else none) else none) else none)) else none) else (F_X12_findForce_189 k_X12_findForce_45 k_X12_findForce_93 x1 x2 x3 x4 σ14)) else none) else (F_X12_findForce_189 k_X12_findForce_45 k_X12_findForce_93 x1 x2 x3 x4 σ14)) else none))) else none)) else none)
def F_X12_findForce_93 (k_X12_findForce_45 : Int32 → Int32 → AH → Option AH) : Nat → Int32 → Int32 → Int32 → Int32 → AH → Option AH := fun k => match k with | 0 => fun _ _ _ _ _ => none | k + 1 => B_X12_findForce_93 k_X12_findForce_45 (F_X12_findForce_93 k_X12_findForce_45 k)
def F_X12_findForce_89 (k_X12_findForce_45 : Int32 → Int32 → AH → Option AH) (x1 : Int32) (x2 : Int32) (x3 : Int32) (y0 : Int32) (y1 : Int32) (σ : AH) : Option AH := (if inB y1 24 = true then (F_X12_findForce_93 k_X12_findForce_45 BIG x1 x2 x3 (0 : Int32) (sI σ 134 y1.toNatClampNeg (vp_nar .boolean y0))) else none)
def F_X12_findForce_88 (k_X12_findForce_45 : Int32 → Int32 → AH → Option AH) (x1 : Int32) (x2 : Int32) (x3 : Int32) (y0 : Int32) (σ : AH) : Option AH := (F_X12_findForce_89 k_X12_findForce_45 x1 x2 x3 (0 : Int32) y0 σ)
def B_X12_findForce_45 (k_X12_findForce_45 : Int32 → Int32 → AH → Option AH) (x1 : Int32) (x2 : Int32) (σ : AH) : Option AH := (if x2 < 0 then (some σ) else (bd (F_X12_actAt x2 σ) fun v7 σ3 => (if inB (v7 + (1 : Int32)) 269832 = true then (if (gI σ3 124 23) < (gI σ3 125 (v7 + (1 : Int32)).toNatClampNeg) then (F_X12_findForce_88 k_X12_findForce_45 x1 x2 v7 x2 σ3) else (if inB v7 269832 = true then (if x1 < (gI σ3 125 v7.toNatClampNeg) then (F_X12_findForce_88 k_X12_findForce_45 x1 x2 v7 x2 σ3) else (F_X12_findForce_89 k_X12_findForce_45 x1 x2 v7 (1 : Int32) x2 σ3)) else none)) else none)))
def F_X12_findForce_45 : Nat → Int32 → Int32 → AH → Option AH := fun k => match k with | 0 => fun _ _ _ => none | k + 1 => B_X12_findForce_45 (F_X12_findForce_45 k)
def B_X12_findForce_16 (k_X12_findForce_16 : Int32 → Int32 → AH → Option AH) (x1 : Int32) (x2 : Int32) (σ : AH) : Option AH := (if (384 : Int32) ≤ x2 then (F_X12_findForce_45 BIG x1 ((gI σ 125 0) - (1 : Int32)) σ) else (if inB x2 384 = true then (k_X12_findForce_16 x1 (x2 + 1) (sI σ 135 x2.toNatClampNeg (0 : Int32))) else none))
def F_X12_findForce_16 : Nat → Int32 → Int32 → AH → Option AH := fun k => match k with | 0 => fun _ _ _ => none | k + 1 => B_X12_findForce_16 (F_X12_findForce_16 k)
def F_X12_findForce (x1 : Int32) (σ : AH) : Option AH := (if (gI σ 124 24) = x1 then (some σ) else (F_X12_findForce_16 BIG x1 (0 : Int32) (sI σ 124 24 x1)))
set_option maxRecDepth 100000 in
theorem t_X12_findForce_195 {X : Sx} {l : Launch} {D : Nat} {k_X12_findForce_45 : Int32 → Int32 → AH → Option AH} {x1 : Int32} {x2 : Int32} {σ : AH} {σ' : AH} (hD : 2 ≤ D) (hk_X12_findForce_45 : ∀ (x1 : Int32) (x2 : Int32) (σ : AH) (σ' : AH), Sh σ → k_X12_findForce_45 x1 x2 σ = some σ' → E X l m_X12_findForce D 45 [(0, .ref 124), (1, .int x1), (2, .int x2)] [] σ none σ') (hs : Sh σ) (h : F_X12_findForce_195 k_X12_findForce_45 x1 x2 σ = some σ') : W_X12_findForce_195 X l D x1 x2 σ none σ' := by
  unfold F_X12_findForce_195 at h
  unfold W_X12_findForce_195
  exact hk_X12_findForce_45 _ _ _ _ hs  h
set_option maxRecDepth 100000 in
theorem t_X12_findForce_189 {X : Sx} {l : Launch} {D : Nat} {k_X12_findForce_45 : Int32 → Int32 → AH → Option AH} {k_X12_findForce_93 : Int32 → Int32 → Int32 → Int32 → AH → Option AH} {x1 : Int32} {x2 : Int32} {x3 : Int32} {x4 : Int32} {σ : AH} {σ' : AH} (hD : 2 ≤ D) (hk_X12_findForce_45 : ∀ (x1 : Int32) (x2 : Int32) (σ : AH) (σ' : AH), Sh σ → k_X12_findForce_45 x1 x2 σ = some σ' → E X l m_X12_findForce D 45 [(0, .ref 124), (1, .int x1), (2, .int x2)] [] σ none σ') (hk_X12_findForce_93 : ∀ (x1 : Int32) (x2 : Int32) (x3 : Int32) (x4 : Int32) (σ : AH) (σ' : AH), Sh σ → k_X12_findForce_93 x1 x2 x3 x4 σ = some σ' → E X l m_X12_findForce D 93 [(0, .ref 124), (1, .int x1), (2, .int x2), (3, .int x3), (4, .int x4)] [] σ none σ') (hs : Sh σ) (h : F_X12_findForce_189 k_X12_findForce_45 k_X12_findForce_93 x1 x2 x3 x4 σ = some σ') : W_X12_findForce_189 X l D x1 x2 x3 x4 σ none σ' := by
  unfold F_X12_findForce_189 at h
  unfold W_X12_findForce_189
  exact hk_X12_findForce_93 _ _ _ _ _ _ hs  h
set_option maxRecDepth 100000 in
theorem t_X12_findForce_93 {X : Sx} {l : Launch} {D : Nat} {k_X12_findForce_45 : Int32 → Int32 → AH → Option AH} {k_X12_findForce_93 : Int32 → Int32 → Int32 → Int32 → AH → Option AH} {x1 : Int32} {x2 : Int32} {x3 : Int32} {x4 : Int32} {σ : AH} {σ' : AH} (hD : 2 ≤ D) (hk_X12_findForce_45 : ∀ (x1 : Int32) (x2 : Int32) (σ : AH) (σ' : AH), Sh σ → k_X12_findForce_45 x1 x2 σ = some σ' → E X l m_X12_findForce D 45 [(0, .ref 124), (1, .int x1), (2, .int x2)] [] σ none σ') (hk_X12_findForce_93 : ∀ (x1 : Int32) (x2 : Int32) (x3 : Int32) (x4 : Int32) (σ : AH) (σ' : AH), Sh σ → k_X12_findForce_93 x1 x2 x3 x4 σ = some σ' → E X l m_X12_findForce D 93 [(0, .ref 124), (1, .int x1), (2, .int x2), (3, .int x3), (4, .int x4)] [] σ none σ') (hs : Sh σ) (h : B_X12_findForce_93 k_X12_findForce_45 k_X12_findForce_93 x1 x2 x3 x4 σ = some σ') : W_X12_findForce_93 X l D x1 x2 x3 x4 σ none σ' := by
  unfold B_X12_findForce_93 at h
  unfold W_X12_findForce_93
  obtain ⟨g1, h⟩ := of_gd h
  refine ⟨(inB_mp g1), ?_⟩
  refine ite_i (fun c2 => ?_) (fun c2 => ?_)
  · replace h := of_ifp h c2
    exact t_X12_findForce_195 hD hk_X12_findForce_45 hs  h
  · replace h := of_ifn h c2
    obtain ⟨g3, h⟩ := of_gd h
    refine ⟨(inB_mp g3), ?_⟩
    refine ite_i (fun c4 => ?_) (fun c4 => ?_)
    · replace h := of_ifp h c4
      exact t_X12_findForce_195 hD hk_X12_findForce_45 hs  h
    · replace h := of_ifn h c4
      obtain ⟨v18, σ14, q5, h⟩ := of_bd h
      have hC6 := f_X12_clauseAt (σ := σ) hs  q5 (X := X) (l := l)
      have hs7 := hC6.1.2.2.2.1 hs
      refine ⟨1, v18, σ14, (Nat.le_trans (by decide) hD), hC6, ?_⟩
      obtain ⟨g8, h⟩ := of_gd h
      refine ⟨(inB_mp g8), ?_⟩
      refine ite_i (fun c9 => ?_) (fun c9 => ?_)
      · replace h := of_ifp h c9
        obtain ⟨g10, h⟩ := of_gd h
        refine ⟨(inB_mp g10), ?_⟩
        refine ite_i (fun c11 => ?_) (fun c11 => ?_)
        · replace h := of_ifp h c11
          obtain ⟨g12, h⟩ := of_gd h
          refine ⟨(inB_mp g12), ?_⟩
          refine ite_i (fun c13 => ?_) (fun c13 => ?_)
          · replace h := of_ifp h c13
            exact t_X12_findForce_189 hD hk_X12_findForce_45 hk_X12_findForce_93 hs7  h
          · replace h := of_ifn h c13
            obtain ⟨g14, h⟩ := of_gd h
            refine ⟨(inB_mp g14), ?_⟩
            obtain ⟨g15, h⟩ := of_gd h
            refine ⟨(inB_mp g15), ?_⟩
            obtain ⟨g16, h⟩ := of_gd h
            refine ⟨(inB_mp g16), ?_⟩
            intro τ25 e17
            replace h := of_lt h e17
            have hs18 : Sh τ25 := by rw [e17]; exact hs7
            exact t_X12_findForce_189 hD hk_X12_findForce_45 hk_X12_findForce_93 hs18  h
        · replace h := of_ifn h c11
          exact t_X12_findForce_189 hD hk_X12_findForce_45 hk_X12_findForce_93 hs7  h
      · replace h := of_ifn h c9
        exact t_X12_findForce_189 hD hk_X12_findForce_45 hk_X12_findForce_93 hs7  h
theorem e_X12_findForce_93 {X : Sx} {l : Launch} {D : Nat} {k_X12_findForce_45 : Int32 → Int32 → AH → Option AH} (hD : 2 ≤ D) (hk_X12_findForce_45 : ∀ (x1 : Int32) (x2 : Int32) (σ : AH) (σ' : AH), Sh σ → k_X12_findForce_45 x1 x2 σ = some σ' → E X l m_X12_findForce D 45 [(0, .ref 124), (1, .int x1), (2, .int x2)] [] σ none σ') : ∀ (k : Nat) (x1 : Int32) (x2 : Int32) (x3 : Int32) (x4 : Int32) (σ : AH) (σ' : AH), Sh σ → F_X12_findForce_93 k_X12_findForce_45 k x1 x2 x3 x4 σ = some σ' → E X l m_X12_findForce D 93 [(0, .ref 124), (1, .int x1), (2, .int x2), (3, .int x3), (4, .int x4)] [] σ none σ' := by
  intro k
  induction k with
  | zero => intro x1 x2 x3 x4 σ σ' hs h; cases h
  | succ k ih =>
    intro x1 x2 x3 x4 σ σ' hs h
    exact w_X12_findForce_93 hs  (t_X12_findForce_93 hD hk_X12_findForce_45 ih hs  h)
set_option maxRecDepth 100000 in
theorem t_X12_findForce_89 {X : Sx} {l : Launch} {D : Nat} {k_X12_findForce_45 : Int32 → Int32 → AH → Option AH} {x1 : Int32} {x2 : Int32} {x3 : Int32} {y0 : Int32} {y1 : Int32} {σ : AH} {σ' : AH} (hD : 2 ≤ D) (hk_X12_findForce_45 : ∀ (x1 : Int32) (x2 : Int32) (σ : AH) (σ' : AH), Sh σ → k_X12_findForce_45 x1 x2 σ = some σ' → E X l m_X12_findForce D 45 [(0, .ref 124), (1, .int x1), (2, .int x2)] [] σ none σ') (hs : Sh σ) (h : F_X12_findForce_89 k_X12_findForce_45 x1 x2 x3 y0 y1 σ = some σ') : W_X12_findForce_89 X l D x1 x2 x3 y0 y1 σ none σ' := by
  unfold F_X12_findForce_89 at h
  unfold W_X12_findForce_89
  obtain ⟨g1, h⟩ := of_gd h
  refine ⟨(inB_mp g1), ?_⟩
  exact e_X12_findForce_93 hD hk_X12_findForce_45 _ _ _ _ _ _ _ hs  h
set_option maxRecDepth 100000 in
theorem t_X12_findForce_88 {X : Sx} {l : Launch} {D : Nat} {k_X12_findForce_45 : Int32 → Int32 → AH → Option AH} {x1 : Int32} {x2 : Int32} {x3 : Int32} {y0 : Int32} {σ : AH} {σ' : AH} (hD : 2 ≤ D) (hk_X12_findForce_45 : ∀ (x1 : Int32) (x2 : Int32) (σ : AH) (σ' : AH), Sh σ → k_X12_findForce_45 x1 x2 σ = some σ' → E X l m_X12_findForce D 45 [(0, .ref 124), (1, .int x1), (2, .int x2)] [] σ none σ') (hs : Sh σ) (h : F_X12_findForce_88 k_X12_findForce_45 x1 x2 x3 y0 σ = some σ') : W_X12_findForce_88 X l D x1 x2 x3 y0 σ none σ' := by
  unfold F_X12_findForce_88 at h
  unfold W_X12_findForce_88
  exact t_X12_findForce_89 hD hk_X12_findForce_45 hs  h
set_option maxRecDepth 100000 in
theorem t_X12_findForce_45 {X : Sx} {l : Launch} {D : Nat} {k_X12_findForce_45 : Int32 → Int32 → AH → Option AH} {x1 : Int32} {x2 : Int32} {σ : AH} {σ' : AH} (hD : 2 ≤ D) (hk_X12_findForce_45 : ∀ (x1 : Int32) (x2 : Int32) (σ : AH) (σ' : AH), Sh σ → k_X12_findForce_45 x1 x2 σ = some σ' → E X l m_X12_findForce D 45 [(0, .ref 124), (1, .int x1), (2, .int x2)] [] σ none σ') (hs : Sh σ) (h : B_X12_findForce_45 k_X12_findForce_45 x1 x2 σ = some σ') : W_X12_findForce_45 X l D x1 x2 σ none σ' := by
  unfold B_X12_findForce_45 at h
  unfold W_X12_findForce_45
  refine ite_i (fun c1 => ?_) (fun c1 => ?_)
  · replace h := of_ifp h c1
    exact ret_v h
  · replace h := of_ifn h c1
    obtain ⟨v7, σ3, q2, h⟩ := of_bd h
    have hC3 := f_X12_actAt (σ := σ) hs  q2 (X := X) (l := l)
    have hs4 := hC3.1.2.2.2.1 hs
    refine ⟨0, v7, σ3, (Nat.le_trans (by decide) hD), hC3, ?_⟩
    obtain ⟨g5, h⟩ := of_gd h
    refine ⟨(inB_mp g5), ?_⟩
    refine ite_i (fun c6 => ?_) (fun c6 => ?_)
    · replace h := of_ifp h c6
      exact t_X12_findForce_88 hD hk_X12_findForce_45 hs4  h
    · replace h := of_ifn h c6
      obtain ⟨g7, h⟩ := of_gd h
      refine ⟨(inB_mp g7), ?_⟩
      refine ite_i (fun c8 => ?_) (fun c8 => ?_)
      · replace h := of_ifp h c8
        exact t_X12_findForce_88 hD hk_X12_findForce_45 hs4  h
      · replace h := of_ifn h c8
        exact t_X12_findForce_89 hD hk_X12_findForce_45 hs4  h
theorem e_X12_findForce_45 {X : Sx} {l : Launch} {D : Nat} (hD : 2 ≤ D) : ∀ (k : Nat) (x1 : Int32) (x2 : Int32) (σ : AH) (σ' : AH), Sh σ → F_X12_findForce_45 k x1 x2 σ = some σ' → E X l m_X12_findForce D 45 [(0, .ref 124), (1, .int x1), (2, .int x2)] [] σ none σ' := by
  intro k
  induction k with
  | zero => intro x1 x2 σ σ' hs h; cases h
  | succ k ih =>
    intro x1 x2 σ σ' hs h
    exact w_X12_findForce_45 hs  (t_X12_findForce_45 hD ih hs  h)
set_option maxRecDepth 100000 in
theorem t_X12_findForce_16 {X : Sx} {l : Launch} {D : Nat} {k_X12_findForce_16 : Int32 → Int32 → AH → Option AH} {x1 : Int32} {x2 : Int32} {σ : AH} {σ' : AH} (hD : 2 ≤ D) (hk_X12_findForce_16 : ∀ (x1 : Int32) (x2 : Int32) (σ : AH) (σ' : AH), Sh σ → k_X12_findForce_16 x1 x2 σ = some σ' → E X l m_X12_findForce D 16 [(0, .ref 124), (1, .int x1), (2, .int x2)] [] σ none σ') (hs : Sh σ) (h : B_X12_findForce_16 k_X12_findForce_16 x1 x2 σ = some σ') : W_X12_findForce_16 X l D x1 x2 σ none σ' := by
  unfold B_X12_findForce_16 at h
  unfold W_X12_findForce_16
  refine ite_i (fun c1 => ?_) (fun c1 => ?_)
  · replace h := of_ifp h c1
    exact e_X12_findForce_45 hD  _ _ _ _ _ hs  h
  · replace h := of_ifn h c1
    obtain ⟨g2, h⟩ := of_gd h
    refine ⟨(inB_mp g2), ?_⟩
    exact hk_X12_findForce_16 _ _ _ _ hs  h
theorem e_X12_findForce_16 {X : Sx} {l : Launch} {D : Nat} (hD : 2 ≤ D) : ∀ (k : Nat) (x1 : Int32) (x2 : Int32) (σ : AH) (σ' : AH), Sh σ → F_X12_findForce_16 k x1 x2 σ = some σ' → E X l m_X12_findForce D 16 [(0, .ref 124), (1, .int x1), (2, .int x2)] [] σ none σ' := by
  intro k
  induction k with
  | zero => intro x1 x2 σ σ' hs h; cases h
  | succ k ih =>
    intro x1 x2 σ σ' hs h
    exact w_X12_findForce_16 hs  (t_X12_findForce_16 hD ih hs  h)
set_option maxRecDepth 100000 in
theorem t_X12_findForce_0 {X : Sx} {l : Launch} {D : Nat} {x1 : Int32} {σ : AH} {σ' : AH} (hD : 2 ≤ D) (hs : Sh σ) (h : F_X12_findForce x1 σ = some σ') : W_X12_findForce_0 X l D x1 σ none σ' := by
  unfold F_X12_findForce at h
  unfold W_X12_findForce_0
  refine ite_i (fun c1 => ?_) (fun c1 => ?_)
  · replace h := of_ifp h c1
    exact ret_v h
  · replace h := of_ifn h c1
    exact e_X12_findForce_16 hD  _ _ _ _ _ hs  h
theorem f_X12_findForce {X : Sx} {l : Launch} {x1 : Int32} {σ : AH} {σ' : AH} (hs : Sh σ) (h : F_X12_findForce x1 σ = some σ') : Call X l m_X12_findForce 2 [.ref 124, .int x1] σ none σ' :=
  Call.ofE ok_X12_findForce rfl (Nat.le_of_ble_eq_true rfl) (w_X12_findForce_0 hs  (t_X12_findForce_0 (Nat.le_refl _) hs  h))
def B_X12_knowBy_34 (k_X12_knowBy_34 : Int32 → AH → Option AH) (x2 : Int32) (σ : AH) : Option AH := (if (260 : Int32) ≤ x2 then (some σ) else (if inB x2 260 = true then (k_X12_knowBy_34 (x2 + 1) (sI σ 139 x2.toNatClampNeg (-2 : Int32))) else none))
def F_X12_knowBy_34 : Nat → Int32 → AH → Option AH := fun k => match k with | 0 => fun _ _ => none | k + 1 => B_X12_knowBy_34 (F_X12_knowBy_34 k)
def B_X12_knowBy_12 (k_X12_knowBy_12 : Int32 → AH → Option AH) (x2 : Int32) (σ : AH) : Option AH := (if (84240 : Int32) ≤ x2 then (F_X12_knowBy_34 BIG (0 : Int32) σ) else (if inB x2 84240 = true then (k_X12_knowBy_12 (x2 + 1) (sI σ 138 x2.toNatClampNeg (-2 : Int32))) else none))
def F_X12_knowBy_12 : Nat → Int32 → AH → Option AH := fun k => match k with | 0 => fun _ _ => none | k + 1 => B_X12_knowBy_12 (F_X12_knowBy_12 k)
def F_X12_knowBy (x1 : Int32) (σ : AH) : Option AH := (F_X12_knowBy_12 BIG (0 : Int32) (sI (sI σ 124 23 x1) 124 24 (-1 : Int32)))
set_option maxRecDepth 100000 in
theorem t_X12_knowBy_34 {X : Sx} {l : Launch} {D : Nat} {k_X12_knowBy_34 : Int32 → AH → Option AH} {x2 : Int32} {σ : AH} {σ' : AH} (hD : 0 ≤ D) (hk_X12_knowBy_34 : ∀ (x2 : Int32) (σ : AH) (σ' : AH), Sh σ → k_X12_knowBy_34 x2 σ = some σ' → E X l m_X12_knowBy D 34 [(0, .ref 124), (2, .int x2)] [] σ none σ') (hs : Sh σ) (h : B_X12_knowBy_34 k_X12_knowBy_34 x2 σ = some σ') : W_X12_knowBy_34 X l D x2 σ none σ' := by
  unfold B_X12_knowBy_34 at h
  unfold W_X12_knowBy_34
  refine ite_i (fun c1 => ?_) (fun c1 => ?_)
  · replace h := of_ifp h c1
    exact ret_v h
  · replace h := of_ifn h c1
    obtain ⟨g2, h⟩ := of_gd h
    refine ⟨(inB_mp g2), ?_⟩
    exact hk_X12_knowBy_34 _ _ _ hs  h
theorem e_X12_knowBy_34 {X : Sx} {l : Launch} {D : Nat} (hD : 0 ≤ D) : ∀ (k : Nat) (x2 : Int32) (σ : AH) (σ' : AH), Sh σ → F_X12_knowBy_34 k x2 σ = some σ' → E X l m_X12_knowBy D 34 [(0, .ref 124), (2, .int x2)] [] σ none σ' := by
  intro k
  induction k with
  | zero => intro x2 σ σ' hs h; cases h
  | succ k ih =>
    intro x2 σ σ' hs h
    exact w_X12_knowBy_34 hs  (t_X12_knowBy_34 hD ih hs  h)
set_option maxRecDepth 100000 in
theorem t_X12_knowBy_12 {X : Sx} {l : Launch} {D : Nat} {k_X12_knowBy_12 : Int32 → AH → Option AH} {x2 : Int32} {σ : AH} {σ' : AH} (hD : 0 ≤ D) (hk_X12_knowBy_12 : ∀ (x2 : Int32) (σ : AH) (σ' : AH), Sh σ → k_X12_knowBy_12 x2 σ = some σ' → E X l m_X12_knowBy D 12 [(0, .ref 124), (2, .int x2)] [] σ none σ') (hs : Sh σ) (h : B_X12_knowBy_12 k_X12_knowBy_12 x2 σ = some σ') : W_X12_knowBy_12 X l D x2 σ none σ' := by
  unfold B_X12_knowBy_12 at h
  unfold W_X12_knowBy_12
  refine ite_i (fun c1 => ?_) (fun c1 => ?_)
  · replace h := of_ifp h c1
    exact e_X12_knowBy_34 hD  _ _ _ _ hs  h
  · replace h := of_ifn h c1
    obtain ⟨g2, h⟩ := of_gd h
    refine ⟨(inB_mp g2), ?_⟩
    exact hk_X12_knowBy_12 _ _ _ hs  h
theorem e_X12_knowBy_12 {X : Sx} {l : Launch} {D : Nat} (hD : 0 ≤ D) : ∀ (k : Nat) (x2 : Int32) (σ : AH) (σ' : AH), Sh σ → F_X12_knowBy_12 k x2 σ = some σ' → E X l m_X12_knowBy D 12 [(0, .ref 124), (2, .int x2)] [] σ none σ' := by
  intro k
  induction k with
  | zero => intro x2 σ σ' hs h; cases h
  | succ k ih =>
    intro x2 σ σ' hs h
    exact w_X12_knowBy_12 hs  (t_X12_knowBy_12 hD ih hs  h)
set_option maxRecDepth 100000 in
theorem t_X12_knowBy_0 {X : Sx} {l : Launch} {D : Nat} {x1 : Int32} {σ : AH} {σ' : AH} (hD : 0 ≤ D) (hs : Sh σ) (h : F_X12_knowBy x1 σ = some σ') : W_X12_knowBy_0 X l D x1 σ none σ' := by
  unfold F_X12_knowBy at h
  unfold W_X12_knowBy_0
  exact e_X12_knowBy_12 hD  _ _ _ _ hs  h
theorem f_X12_knowBy {X : Sx} {l : Launch} {x1 : Int32} {σ : AH} {σ' : AH} (hs : Sh σ) (h : F_X12_knowBy x1 σ = some σ') : Call X l m_X12_knowBy 0 [.ref 124, .int x1] σ none σ' :=
  Call.ofE ok_X12_knowBy rfl (Nat.le_of_ble_eq_true rfl) (w_X12_knowBy_0 hs  (t_X12_knowBy_0 (Nat.le_refl _) hs  h))
def F_X12_force (x1 : Int32) (x2 : Int32) (x3 : Int32) (x4 : Int32) (σ : AH) : Option (Int32 × AH) := (bd (F_X12_in (x1).toInt64 (0 : Int64) (((gI (sI σ 124 0 (0 : Int32)) 125 0)).toInt64 - (1 : Int64)) (sI σ 124 0 (0 : Int32))) fun v6 σ2 => (if v6 = 0 then (some ((-1 : Int32), σ2)) else (bd (F_X12_actAt x1 σ2) fun v12 σ8 => (if inB (v12 + (2 : Int32)) 269832 = true then (bd (F_X12_in (x2).toInt64 (0 : Int64) (((gI σ8 125 (v12 + (2 : Int32)).toNatClampNeg)).toInt64 - (1 : Int64)) σ8) fun v19 σ15 => (if v19 = 0 then (some ((-1 : Int32), σ15)) else (bd (F_X12_isWeek x3 σ15) fun v25 σ21 => (if v25 = 0 then (some ((-1 : Int32), σ21)) else (bd (F_X12_isWeek x4 σ21) fun v31 σ27 => (if v31 = 0 then (some ((-1 : Int32), σ27)) else (bv (F_X12_knowBy x4 σ27) fun σ33 => (bv (F_X12_findForce x3 σ33) fun σ38 => (if inB x1 24 = true then (if (gI σ38 134 x1.toNatClampNeg) = 0 then (some ((0 : Int32), σ38)) else (if inB (((16 : Int32) * x1) + x2) 384 = true then (if (gI σ38 135 (((16 : Int32) * x1) + x2).toNatClampNeg) = 0 then (some ((1 : Int32), σ38)) else (some ((0 : Int32), σ38))) else none)) else none))))))))) else none))))
set_option maxRecDepth 100000 in
theorem t_X12_force_0 {X : Sx} {l : Launch} {D : Nat} {x1 : Int32} {x2 : Int32} {x3 : Int32} {x4 : Int32} {σ : AH} {v : Int32} {σ' : AH} (hD : 3 ≤ D) (hs : Sh σ) (h : F_X12_force x1 x2 x3 x4 σ = some (v, σ')) : W_X12_force_0 X l D x1 x2 x3 x4 σ (some (.int v)) σ' := by
  unfold F_X12_force at h
  unfold W_X12_force_0
  obtain ⟨v6, σ2, q1, h⟩ := of_bd h
  have hC2 := f_X12_in (σ := (sI σ 124 0 (0 : Int32))) hs  q1 (X := X) (l := l)
  have hs3 := hC2.1.2.2.2.1 hs
  refine ⟨0, v6, σ2, (Nat.le_trans (by decide) hD), hC2, ?_⟩
  refine ite_i (fun c4 => ?_) (fun c4 => ?_)
  · replace h := of_ifp h c4
    exact ret_i h
  · replace h := of_ifn h c4
    obtain ⟨v12, σ8, q5, h⟩ := of_bd h
    have hC6 := f_X12_actAt (σ := σ2) hs3  q5 (X := X) (l := l)
    have hs7 := hC6.1.2.2.2.1 hs3
    refine ⟨0, v12, σ8, (Nat.le_trans (by decide) hD), hC6, ?_⟩
    obtain ⟨g8, h⟩ := of_gd h
    refine ⟨(inB_mp g8), ?_⟩
    obtain ⟨v19, σ15, q9, h⟩ := of_bd h
    have hC10 := f_X12_in (σ := σ8) hs7  q9 (X := X) (l := l)
    have hs11 := hC10.1.2.2.2.1 hs7
    refine ⟨0, v19, σ15, (Nat.le_trans (by decide) hD), hC10, ?_⟩
    refine ite_i (fun c12 => ?_) (fun c12 => ?_)
    · replace h := of_ifp h c12
      exact ret_i h
    · replace h := of_ifn h c12
      obtain ⟨v25, σ21, q13, h⟩ := of_bd h
      have hC14 := f_X12_isWeek (σ := σ15) hs11  q13 (X := X) (l := l)
      have hs15 := hC14.1.2.2.2.1 hs11
      refine ⟨1, v25, σ21, (Nat.le_trans (by decide) hD), hC14, ?_⟩
      refine ite_i (fun c16 => ?_) (fun c16 => ?_)
      · replace h := of_ifp h c16
        exact ret_i h
      · replace h := of_ifn h c16
        obtain ⟨v31, σ27, q17, h⟩ := of_bd h
        have hC18 := f_X12_isWeek (σ := σ21) hs15  q17 (X := X) (l := l)
        have hs19 := hC18.1.2.2.2.1 hs15
        refine ⟨1, v31, σ27, (Nat.le_trans (by decide) hD), hC18, ?_⟩
        refine ite_i (fun c20 => ?_) (fun c20 => ?_)
        · replace h := of_ifp h c20
          exact ret_i h
        · replace h := of_ifn h c20
          obtain ⟨σ33, q21, h⟩ := of_bv h
          have hC22 := f_X12_knowBy (σ := σ27) hs19  q21 (X := X) (l := l)
          have hs23 := hC22.1.2.2.2.1 hs19
          refine ⟨0, σ33, (Nat.le_trans (by decide) hD), hC22, ?_⟩
          obtain ⟨σ38, q24, h⟩ := of_bv h
          have hC25 := f_X12_findForce (σ := σ33) hs23  q24 (X := X) (l := l)
          have hs26 := hC25.1.2.2.2.1 hs23
          refine ⟨2, σ38, (Nat.le_trans (by decide) hD), hC25, ?_⟩
          obtain ⟨g27, h⟩ := of_gd h
          refine ⟨(inB_mp g27), ?_⟩
          refine ite_i (fun c28 => ?_) (fun c28 => ?_)
          · replace h := of_ifp h c28
            exact ret_i h
          · replace h := of_ifn h c28
            obtain ⟨g29, h⟩ := of_gd h
            refine ⟨(inB_mp g29), ?_⟩
            refine ite_i (fun c30 => ?_) (fun c30 => ?_)
            · replace h := of_ifp h c30
              exact ret_i h
            · replace h := of_ifn h c30
              exact ret_i h
theorem f_X12_force {X : Sx} {l : Launch} {x1 : Int32} {x2 : Int32} {x3 : Int32} {x4 : Int32} {σ : AH} {v : Int32} {σ' : AH} (hs : Sh σ) (h : F_X12_force x1 x2 x3 x4 σ = some (v, σ')) : Call X l m_X12_force 3 [.ref 124, .int x1, .int x2, .int x3, .int x4] σ (some (.int v)) σ' :=
  Call.ofE ok_X12_force rfl (Nat.le_of_ble_eq_true rfl) (w_X12_force_0 hs  (t_X12_force_0 (Nat.le_refl _) hs  h))
def B_X12_setOnly_2 (k_X12_setOnly_2 : Int32 → Int32 → Int32 → AH → Option AH) (x1 : Int32) (x2 : Int32) (x3 : Int32) (σ : AH) : Option AH := (if (8 : Int32) ≤ x3 then (some (sI (sI σ 136 1 x1) 136 7 x2)) else (if inB x3 8 = true then (k_X12_setOnly_2 x1 x2 (x3 + 1) (sI σ 136 x3.toNatClampNeg (0 : Int32))) else none))
def F_X12_setOnly_2 : Nat → Int32 → Int32 → Int32 → AH → Option AH := fun k => match k with | 0 => fun _ _ _ _ => none | k + 1 => B_X12_setOnly_2 (F_X12_setOnly_2 k)
def F_X12_setOnly (x1 : Int32) (x2 : Int32) (σ : AH) : Option AH := (F_X12_setOnly_2 BIG x1 x2 (0 : Int32) σ)
set_option maxRecDepth 100000 in
theorem t_X12_setOnly_2 {X : Sx} {l : Launch} {D : Nat} {k_X12_setOnly_2 : Int32 → Int32 → Int32 → AH → Option AH} {x1 : Int32} {x2 : Int32} {x3 : Int32} {σ : AH} {σ' : AH} (hD : 0 ≤ D) (hk_X12_setOnly_2 : ∀ (x1 : Int32) (x2 : Int32) (x3 : Int32) (σ : AH) (σ' : AH), Sh σ → k_X12_setOnly_2 x1 x2 x3 σ = some σ' → E X l m_X12_setOnly D 2 [(0, .ref 124), (1, .int x1), (2, .int x2), (3, .int x3)] [] σ none σ') (hs : Sh σ) (h : B_X12_setOnly_2 k_X12_setOnly_2 x1 x2 x3 σ = some σ') : W_X12_setOnly_2 X l D x1 x2 x3 σ none σ' := by
  unfold B_X12_setOnly_2 at h
  unfold W_X12_setOnly_2
  refine ite_i (fun c1 => ?_) (fun c1 => ?_)
  · replace h := of_ifp h c1
    exact ret_v h
  · replace h := of_ifn h c1
    obtain ⟨g2, h⟩ := of_gd h
    refine ⟨(inB_mp g2), ?_⟩
    exact hk_X12_setOnly_2 _ _ _ _ _ hs  h
theorem e_X12_setOnly_2 {X : Sx} {l : Launch} {D : Nat} (hD : 0 ≤ D) : ∀ (k : Nat) (x1 : Int32) (x2 : Int32) (x3 : Int32) (σ : AH) (σ' : AH), Sh σ → F_X12_setOnly_2 k x1 x2 x3 σ = some σ' → E X l m_X12_setOnly D 2 [(0, .ref 124), (1, .int x1), (2, .int x2), (3, .int x3)] [] σ none σ' := by
  intro k
  induction k with
  | zero => intro x1 x2 x3 σ σ' hs h; cases h
  | succ k ih =>
    intro x1 x2 x3 σ σ' hs h
    exact w_X12_setOnly_2 hs  (t_X12_setOnly_2 hD ih hs  h)
set_option maxRecDepth 100000 in
theorem t_X12_setOnly_0 {X : Sx} {l : Launch} {D : Nat} {x1 : Int32} {x2 : Int32} {σ : AH} {σ' : AH} (hD : 0 ≤ D) (hs : Sh σ) (h : F_X12_setOnly x1 x2 σ = some σ') : W_X12_setOnly_0 X l D x1 x2 σ none σ' := by
  unfold F_X12_setOnly at h
  unfold W_X12_setOnly_0
  exact e_X12_setOnly_2 hD  _ _ _ _ _ _ hs  h
theorem f_X12_setOnly {X : Sx} {l : Launch} {x1 : Int32} {x2 : Int32} {σ : AH} {σ' : AH} (hs : Sh σ) (h : F_X12_setOnly x1 x2 σ = some σ') : Call X l m_X12_setOnly 0 [.ref 124, .int x1, .int x2] σ none σ' :=
  Call.ofE ok_X12_setOnly rfl (Nat.le_of_ble_eq_true rfl) (w_X12_setOnly_0 hs  (t_X12_setOnly_0 (Nat.le_refl _) hs  h))
def F_X12_reckon_76 (x2 : Int64) (x4 : Int64) (y0 : Int32) (σ : AH) : Option (Int64 × AH) := (if (y0 = 0 ∨ y0 = 1) then (if (gI (sI σ 124 29 y0) 124 29) = 0 then (if ¬ x4 = 0 then (some ((x2 / x4), (sI σ 124 29 y0))) else none) else (some ((0 : Int64), (sI σ 124 29 y0)))) else none)
def F_X12_reckon (x1 : Int32) (x2 : Int64) (x4 : Int64) (σ : AH) : Option (Int64 × AH) := (if x1 = 8 then (some ((x2 + x4), σ)) else (if x1 = 9 then (some ((x2 - x4), σ)) else (if x1 = 10 then (some ((x2 * x4), σ)) else (if x1 = 11 then (if x4 = (0 : Int64) then (F_X12_reckon_76 x2 x4 (1 : Int32) σ) else (F_X12_reckon_76 x2 x4 (0 : Int32) σ)) else (if x1 = 12 then (if x4 ≤ x2 then (some ((0 : Int64), σ)) else (some ((1 : Int64), σ))) else (if x1 = 13 then (if x2 ≤ x4 then (some ((0 : Int64), σ)) else (some ((1 : Int64), σ))) else (if x1 = 14 then (if x2 = x4 then (some ((1 : Int64), σ)) else (some ((0 : Int64), σ))) else (if x1 = 15 then (if x4 ≤ x2 then (some (x4, σ)) else (some (x2, σ))) else (if x2 ≤ x4 then (some (x4, σ)) else (some (x2, σ)))))))))))
set_option maxRecDepth 100000 in
theorem t_X12_reckon_76 {X : Sx} {l : Launch} {D : Nat} {x2 : Int64} {x4 : Int64} {y0 : Int32} {σ : AH} {v : Int64} {σ' : AH} (hD : 0 ≤ D) (hs : Sh σ) (h : F_X12_reckon_76 x2 x4 y0 σ = some (v, σ')) : W_X12_reckon_76 X l D x2 x4 y0 σ (some (.long v)) σ' := by
  unfold F_X12_reckon_76 at h
  unfold W_X12_reckon_76
  obtain ⟨g1, h⟩ := of_gd h
  refine ⟨g1, ?_⟩
  refine ite_i (fun c2 => ?_) (fun c2 => ?_)
  · replace h := of_ifp h c2
    obtain ⟨g3, h⟩ := of_gd h
    refine ⟨g3, ?_⟩
    exact ret_l h
  · replace h := of_ifn h c2
    exact ret_l h
set_option maxRecDepth 100000 in
theorem t_X12_reckon_0 {X : Sx} {l : Launch} {D : Nat} {x1 : Int32} {x2 : Int64} {x4 : Int64} {σ : AH} {v : Int64} {σ' : AH} (hD : 0 ≤ D) (hs : Sh σ) (h : F_X12_reckon x1 x2 x4 σ = some (v, σ')) : W_X12_reckon_0 X l D x1 x2 x4 σ (some (.long v)) σ' := by
  unfold F_X12_reckon at h
  unfold W_X12_reckon_0
  refine ite_i (fun c1 => ?_) (fun c1 => ?_)
  · replace h := of_ifp h c1
    exact ret_l h
  · replace h := of_ifn h c1
    refine ite_i (fun c2 => ?_) (fun c2 => ?_)
    · replace h := of_ifp h c2
      exact ret_l h
    · replace h := of_ifn h c2
      refine ite_i (fun c3 => ?_) (fun c3 => ?_)
      · replace h := of_ifp h c3
        exact ret_l h
      · replace h := of_ifn h c3
        refine ite_i (fun c4 => ?_) (fun c4 => ?_)
        · replace h := of_ifp h c4
          refine ite_i (fun c5 => ?_) (fun c5 => ?_)
          · replace h := of_ifp h c5
            exact t_X12_reckon_76 hD  hs  h
          · replace h := of_ifn h c5
            exact t_X12_reckon_76 hD  hs  h
        · replace h := of_ifn h c4
          refine ite_i (fun c6 => ?_) (fun c6 => ?_)
          · replace h := of_ifp h c6
            refine ite_i (fun c7 => ?_) (fun c7 => ?_)
            · replace h := of_ifp h c7
              exact ret_l h
            · replace h := of_ifn h c7
              exact ret_l h
          · replace h := of_ifn h c6
            refine ite_i (fun c8 => ?_) (fun c8 => ?_)
            · replace h := of_ifp h c8
              refine ite_i (fun c9 => ?_) (fun c9 => ?_)
              · replace h := of_ifp h c9
                exact ret_l h
              · replace h := of_ifn h c9
                exact ret_l h
            · replace h := of_ifn h c8
              refine ite_i (fun c10 => ?_) (fun c10 => ?_)
              · replace h := of_ifp h c10
                refine ite_i (fun c11 => ?_) (fun c11 => ?_)
                · replace h := of_ifp h c11
                  exact ret_l h
                · replace h := of_ifn h c11
                  exact ret_l h
              · replace h := of_ifn h c10
                refine ite_i (fun c12 => ?_) (fun c12 => ?_)
                · replace h := of_ifp h c12
                  refine ite_i (fun c13 => ?_) (fun c13 => ?_)
                  · replace h := of_ifp h c13
                    exact ret_l h
                  · replace h := of_ifn h c13
                    exact ret_l h
                · replace h := of_ifn h c12
                  refine ite_i (fun c14 => ?_) (fun c14 => ?_)
                  · replace h := of_ifp h c14
                    exact ret_l h
                  · replace h := of_ifn h c14
                    exact ret_l h
theorem f_X12_reckon {X : Sx} {l : Launch} {x1 : Int32} {x2 : Int64} {x4 : Int64} {σ : AH} {v : Int64} {σ' : AH} (hs : Sh σ) (h : F_X12_reckon x1 x2 x4 σ = some (v, σ')) : Call X l m_X12_reckon 0 [.ref 124, .int x1, .long x2, .long x4] σ (some (.long v)) σ' :=
  Call.ofE ok_X12_reckon rfl (Nat.le_of_ble_eq_true rfl) (w_X12_reckon_0 hs  (t_X12_reckon_0 (Nat.le_refl _) hs  h))
def F_X12_run_270 (y0 : Int64) (σ : AH) : Option AH := (some (sL σ 124 30 y0))
def F_X12_run_254 (x4 : Int32) (σ : AH) : Option AH := (if x4 ≤ 0 then (F_X12_run_270 (0 : Int64) σ) else (F_X12_run_270 (gL σ 137 0) σ))
def F_X12_run_237 (k_X12_run_11 : Int32 → Int32 → Int32 → Int32 → AH → Option AH) (x1 : Int32) (x3 : Int32) (x4 : Int32) (x5 : Int32) (x7 : Int32) (y0 : Int64) (y1 : Int64) (σ : AH) : Option AH := (if y1 = y0 then (k_X12_run_11 x1 x3 x4 x7 σ) else (k_X12_run_11 x1 x3 (x4 + (-1)) x5 σ))
def F_X12_run_180 (k_X12_run_11 : Int32 → Int32 → Int32 → Int32 → AH → Option AH) (x1 : Int32) (x3 : Int32) (x4 : Int32) (x5 : Int32) (y0 : Int32) (σ : AH) : Option AH := (if (y0 = 0 ∨ y0 = 1) then (k_X12_run_11 x1 x3 x4 x5 (sI σ 124 29 y0)) else none)
def F_X12_run_175 (k_X12_run_11 : Int32 → Int32 → Int32 → Int32 → AH → Option AH) (x1 : Int32) (x3 : Int32) (x4 : Int32) (x5 : Int32) (σ : AH) : Option AH := (F_X12_run_180 k_X12_run_11 x1 x3 x4 x5 (1 : Int32) σ)
def F_X12_run_101 (k_X12_run_11 : Int32 → Int32 → Int32 → Int32 → AH → Option AH) (x1 : Int32) (x3 : Int32) (x4 : Int32) (x5 : Int32) (y0 : Int64) (y1 : Int32) (σ : AH) : Option AH := (if inB y1 400 = true then (k_X12_run_11 x1 x3 (x4 + 1) x5 (sL σ 137 y1.toNatClampNeg y0)) else none)
set_option maxRecDepth 100000 in
def B_X12_run_11 (k_X12_run_11 : Int32 → Int32 → Int32 → Int32 → AH → Option AH) (x1 : Int32) (x3 : Int32) (x4 : Int32) (x5 : Int32) (σ : AH) : Option AH := (if x3 ≤ x5 then (F_X12_run_254 x4 σ) else (if (gI σ 124 29) = 0 then (bd (F_X12_actAt x1 σ) fun v6 σ2 => (if inB ((v6 + (147 : Int32)) + ((2 : Int32) * x5)) 269832 = true then (bd (F_X12_actAt x1 σ2) fun v13 σ9 => (if inB (((v13 + (147 : Int32)) + ((2 : Int32) * x5)) + (1 : Int32)) 269832 = true then (if (8 : Int32) ≤ (gI σ2 125 ((v6 + (147 : Int32)) + ((2 : Int32) * x5)).toNatClampNeg) then (if (17 : Int32) ≤ (gI σ2 125 ((v6 + (147 : Int32)) + ((2 : Int32) * x5)).toNatClampNeg) then (if (gI σ2 125 ((v6 + (147 : Int32)) + ((2 : Int32) * x5)).toNatClampNeg) = (17 : Int32) then (if inB (x4 - (1 : Int32)) 400 = true then (if inB (x4 - (1 : Int32)) 400 = true then (k_X12_run_11 x1 x3 x4 (x5 + 1) (sL σ9 137 ((x4 - (1 : Int32)).toNatClampNeg) ((1 : Int64) - (gL σ9 137 (x4 - (1 : Int32)).toNatClampNeg)))) else none) else none) else (if inB (x4 - (1 : Int32)) 400 = true then (if (gI σ2 125 ((v6 + (147 : Int32)) + ((2 : Int32) * x5)).toNatClampNeg) = (18 : Int32) then (F_X12_run_237 k_X12_run_11 x1 x3 x4 (x5 + 1) (gI σ9 125 (((v13 + (147 : Int32)) + ((2 : Int32) * x5)) + (1 : Int32)).toNatClampNeg) (0 : Int64) (gL σ9 137 (x4 - (1 : Int32)).toNatClampNeg) σ9) else (F_X12_run_237 k_X12_run_11 x1 x3 x4 (x5 + 1) (gI σ9 125 (((v13 + (147 : Int32)) + ((2 : Int32) * x5)) + (1 : Int32)).toNatClampNeg) (1 : Int64) (gL σ9 137 (x4 - (1 : Int32)).toNatClampNeg) σ9)) else none)) else (if inB ((x4 + (-1)) - (1 : Int32)) 400 = true then (if inB (x4 + (-1)) 400 = true then (bd (F_X12_reckon (gI σ2 125 ((v6 + (147 : Int32)) + ((2 : Int32) * x5)).toNatClampNeg) (gL σ9 137 ((x4 + (-1)) - (1 : Int32)).toNatClampNeg) (gL σ9 137 (x4 + (-1)).toNatClampNeg) σ9) fun v25 σ21 => (if inB ((x4 + (-1)) - (1 : Int32)) 400 = true then (if (gI (sL σ21 137 (((x4 + (-1)) - (1 : Int32)).toNatClampNeg) v25) 124 29) = 0 then (bd (F_X12_in v25 (-1000000000 : Int64) (1000000000 : Int64) (sL σ21 137 (((x4 + (-1)) - (1 : Int32)).toNatClampNeg) v25)) fun v32 σ28 => (if v32 = 0 then (F_X12_run_175 k_X12_run_11 x1 x3 (x4 + (-1)) (x5 + 1) σ28) else (F_X12_run_180 k_X12_run_11 x1 x3 (x4 + (-1)) (x5 + 1) (0 : Int32) σ28))) else (F_X12_run_175 k_X12_run_11 x1 x3 (x4 + (-1)) (x5 + 1) (sL σ21 137 (((x4 + (-1)) - (1 : Int32)).toNatClampNeg) v25))) else none)) else none) else none)) else (if (gI σ2 125 ((v6 + (147 : Int32)) + ((2 : Int32) * x5)).toNatClampNeg) = 0 then (F_X12_run_101 k_X12_run_11 x1 x3 x4 (x5 + 1) (((gI σ9 125 (((v13 + (147 : Int32)) + ((2 : Int32) * x5)) + (1 : Int32)).toNatClampNeg)).toInt64) x4 σ9) else (if inB (gI σ2 125 ((v6 + (147 : Int32)) + ((2 : Int32) * x5)).toNatClampNeg) 8 = true then (F_X12_run_101 k_X12_run_11 x1 x3 x4 (x5 + 1) (((gI σ9 136 (gI σ2 125 ((v6 + (147 : Int32)) + ((2 : Int32) * x5)).toNatClampNeg).toNatClampNeg)).toInt64) x4 σ9) else none))) else none)) else none)) else (F_X12_run_254 x4 σ)))
def F_X12_run_11 : Nat → Int32 → Int32 → Int32 → Int32 → AH → Option AH := fun k => match k with | 0 => fun _ _ _ _ _ => none | k + 1 => B_X12_run_11 (F_X12_run_11 k)
def F_X12_run (x1 : Int32) (x2 : Int32) (x3 : Int32) (σ : AH) : Option AH := (F_X12_run_11 BIG x1 x3 (0 : Int32) x2 (sI σ 124 29 (0 : Int32)))
set_option maxRecDepth 100000 in
theorem t_X12_run_270 {X : Sx} {l : Launch} {D : Nat} {y0 : Int64} {σ : AH} {σ' : AH} (hD : 1 ≤ D) (hs : Sh σ) (h : F_X12_run_270 y0 σ = some σ') : W_X12_run_270 X l D y0 σ none σ' := by
  unfold F_X12_run_270 at h
  unfold W_X12_run_270
  exact ret_v h
set_option maxRecDepth 100000 in
theorem t_X12_run_254 {X : Sx} {l : Launch} {D : Nat} {x4 : Int32} {σ : AH} {σ' : AH} (hD : 1 ≤ D) (hs : Sh σ) (h : F_X12_run_254 x4 σ = some σ') : W_X12_run_254 X l D x4 σ none σ' := by
  unfold F_X12_run_254 at h
  unfold W_X12_run_254
  refine ite_i (fun c1 => ?_) (fun c1 => ?_)
  · replace h := of_ifp h c1
    exact t_X12_run_270 hD  hs  h
  · replace h := of_ifn h c1
    exact t_X12_run_270 hD  hs  h
set_option maxRecDepth 100000 in
theorem t_X12_run_237 {X : Sx} {l : Launch} {D : Nat} {k_X12_run_11 : Int32 → Int32 → Int32 → Int32 → AH → Option AH} {x1 : Int32} {x3 : Int32} {x4 : Int32} {x5 : Int32} {x7 : Int32} {y0 : Int64} {y1 : Int64} {σ : AH} {σ' : AH} (hD : 1 ≤ D) (hk_X12_run_11 : ∀ (x1 : Int32) (x3 : Int32) (x4 : Int32) (x5 : Int32) (σ : AH) (σ' : AH), Sh σ → k_X12_run_11 x1 x3 x4 x5 σ = some σ' → E X l m_X12_run D 11 [(0, .ref 124), (1, .int x1), (3, .int x3), (4, .int x4), (5, .int x5)] [] σ none σ') (hs : Sh σ) (h : F_X12_run_237 k_X12_run_11 x1 x3 x4 x5 x7 y0 y1 σ = some σ') : W_X12_run_237 X l D x1 x3 x4 x5 x7 y0 y1 σ none σ' := by
  unfold F_X12_run_237 at h
  unfold W_X12_run_237
  refine ite_i (fun c1 => ?_) (fun c1 => ?_)
  · replace h := of_ifp h c1
    exact hk_X12_run_11 _ _ _ _ _ _ hs  h
  · replace h := of_ifn h c1
    exact hk_X12_run_11 _ _ _ _ _ _ hs  h
set_option maxRecDepth 100000 in
theorem t_X12_run_180 {X : Sx} {l : Launch} {D : Nat} {k_X12_run_11 : Int32 → Int32 → Int32 → Int32 → AH → Option AH} {x1 : Int32} {x3 : Int32} {x4 : Int32} {x5 : Int32} {y0 : Int32} {σ : AH} {σ' : AH} (hD : 1 ≤ D) (hk_X12_run_11 : ∀ (x1 : Int32) (x3 : Int32) (x4 : Int32) (x5 : Int32) (σ : AH) (σ' : AH), Sh σ → k_X12_run_11 x1 x3 x4 x5 σ = some σ' → E X l m_X12_run D 11 [(0, .ref 124), (1, .int x1), (3, .int x3), (4, .int x4), (5, .int x5)] [] σ none σ') (hs : Sh σ) (h : F_X12_run_180 k_X12_run_11 x1 x3 x4 x5 y0 σ = some σ') : W_X12_run_180 X l D x1 x3 x4 x5 y0 σ none σ' := by
  unfold F_X12_run_180 at h
  unfold W_X12_run_180
  obtain ⟨g1, h⟩ := of_gd h
  refine ⟨g1, ?_⟩
  exact hk_X12_run_11 _ _ _ _ _ _ hs  h
set_option maxRecDepth 100000 in
theorem t_X12_run_175 {X : Sx} {l : Launch} {D : Nat} {k_X12_run_11 : Int32 → Int32 → Int32 → Int32 → AH → Option AH} {x1 : Int32} {x3 : Int32} {x4 : Int32} {x5 : Int32} {σ : AH} {σ' : AH} (hD : 1 ≤ D) (hk_X12_run_11 : ∀ (x1 : Int32) (x3 : Int32) (x4 : Int32) (x5 : Int32) (σ : AH) (σ' : AH), Sh σ → k_X12_run_11 x1 x3 x4 x5 σ = some σ' → E X l m_X12_run D 11 [(0, .ref 124), (1, .int x1), (3, .int x3), (4, .int x4), (5, .int x5)] [] σ none σ') (hs : Sh σ) (h : F_X12_run_175 k_X12_run_11 x1 x3 x4 x5 σ = some σ') : W_X12_run_175 X l D x1 x3 x4 x5 σ none σ' := by
  unfold F_X12_run_175 at h
  unfold W_X12_run_175
  exact t_X12_run_180 hD hk_X12_run_11 hs  h
set_option maxRecDepth 100000 in
theorem t_X12_run_101 {X : Sx} {l : Launch} {D : Nat} {k_X12_run_11 : Int32 → Int32 → Int32 → Int32 → AH → Option AH} {x1 : Int32} {x3 : Int32} {x4 : Int32} {x5 : Int32} {y0 : Int64} {y1 : Int32} {σ : AH} {σ' : AH} (hD : 1 ≤ D) (hk_X12_run_11 : ∀ (x1 : Int32) (x3 : Int32) (x4 : Int32) (x5 : Int32) (σ : AH) (σ' : AH), Sh σ → k_X12_run_11 x1 x3 x4 x5 σ = some σ' → E X l m_X12_run D 11 [(0, .ref 124), (1, .int x1), (3, .int x3), (4, .int x4), (5, .int x5)] [] σ none σ') (hs : Sh σ) (h : F_X12_run_101 k_X12_run_11 x1 x3 x4 x5 y0 y1 σ = some σ') : W_X12_run_101 X l D x1 x3 x4 x5 y0 y1 σ none σ' := by
  unfold F_X12_run_101 at h
  unfold W_X12_run_101
  obtain ⟨g1, h⟩ := of_gd h
  refine ⟨(inB_mp g1), ?_⟩
  exact hk_X12_run_11 _ _ _ _ _ _ hs  h
set_option maxRecDepth 100000 in
theorem t_X12_run_11 {X : Sx} {l : Launch} {D : Nat} {k_X12_run_11 : Int32 → Int32 → Int32 → Int32 → AH → Option AH} {x1 : Int32} {x3 : Int32} {x4 : Int32} {x5 : Int32} {σ : AH} {σ' : AH} (hD : 1 ≤ D) (hk_X12_run_11 : ∀ (x1 : Int32) (x3 : Int32) (x4 : Int32) (x5 : Int32) (σ : AH) (σ' : AH), Sh σ → k_X12_run_11 x1 x3 x4 x5 σ = some σ' → E X l m_X12_run D 11 [(0, .ref 124), (1, .int x1), (3, .int x3), (4, .int x4), (5, .int x5)] [] σ none σ') (hs : Sh σ) (h : B_X12_run_11 k_X12_run_11 x1 x3 x4 x5 σ = some σ') : W_X12_run_11 X l D x1 x3 x4 x5 σ none σ' := by
  unfold B_X12_run_11 at h
  unfold W_X12_run_11
  refine ite_i (fun c1 => ?_) (fun c1 => ?_)
  · replace h := of_ifp h c1
    exact t_X12_run_254 hD  hs  h
  · replace h := of_ifn h c1
    refine ite_i (fun c2 => ?_) (fun c2 => ?_)
    · replace h := of_ifp h c2
      obtain ⟨v6, σ2, q3, h⟩ := of_bd h
      have hC4 := f_X12_actAt (σ := σ) hs  q3 (X := X) (l := l)
      have hs5 := hC4.1.2.2.2.1 hs
      refine ⟨0, v6, σ2, (Nat.le_trans (by decide) hD), hC4, ?_⟩
      obtain ⟨g6, h⟩ := of_gd h
      refine ⟨(inB_mp g6), ?_⟩
      obtain ⟨v13, σ9, q7, h⟩ := of_bd h
      have hC8 := f_X12_actAt (σ := σ2) hs5  q7 (X := X) (l := l)
      have hs9 := hC8.1.2.2.2.1 hs5
      refine ⟨0, v13, σ9, (Nat.le_trans (by decide) hD), hC8, ?_⟩
      obtain ⟨g10, h⟩ := of_gd h
      refine ⟨(inB_mp g10), ?_⟩
      refine ite_i (fun c11 => ?_) (fun c11 => ?_)
      · replace h := of_ifp h c11
        refine ite_i (fun c12 => ?_) (fun c12 => ?_)
        · replace h := of_ifp h c12
          refine ite_i (fun c13 => ?_) (fun c13 => ?_)
          · replace h := of_ifp h c13
            obtain ⟨g14, h⟩ := of_gd h
            refine ⟨(inB_mp g14), ?_⟩
            obtain ⟨g15, h⟩ := of_gd h
            refine ⟨(inB_mp g15), ?_⟩
            exact hk_X12_run_11 _ _ _ _ _ _ hs9  h
          · replace h := of_ifn h c13
            obtain ⟨g16, h⟩ := of_gd h
            refine ⟨(inB_mp g16), ?_⟩
            refine ite_i (fun c17 => ?_) (fun c17 => ?_)
            · replace h := of_ifp h c17
              exact t_X12_run_237 hD hk_X12_run_11 hs9  h
            · replace h := of_ifn h c17
              exact t_X12_run_237 hD hk_X12_run_11 hs9  h
        · replace h := of_ifn h c12
          obtain ⟨g18, h⟩ := of_gd h
          refine ⟨(inB_mp g18), ?_⟩
          obtain ⟨g19, h⟩ := of_gd h
          refine ⟨(inB_mp g19), ?_⟩
          obtain ⟨v25, σ21, q20, h⟩ := of_bd h
          have hC21 := f_X12_reckon (σ := σ9) hs9  q20 (X := X) (l := l)
          have hs22 := hC21.1.2.2.2.1 hs9
          refine ⟨0, v25, σ21, (Nat.le_trans (by decide) hD), hC21, ?_⟩
          obtain ⟨g23, h⟩ := of_gd h
          refine ⟨(inB_mp g23), ?_⟩
          refine ite_i (fun c24 => ?_) (fun c24 => ?_)
          · replace h := of_ifp h c24
            obtain ⟨v32, σ28, q25, h⟩ := of_bd h
            have hC26 := f_X12_in (σ := (sL σ21 137 (((x4 + (-1)) - (1 : Int32)).toNatClampNeg) v25)) hs22  q25 (X := X) (l := l)
            have hs27 := hC26.1.2.2.2.1 hs22
            refine ⟨0, v32, σ28, (Nat.le_trans (by decide) hD), hC26, ?_⟩
            refine ite_i (fun c28 => ?_) (fun c28 => ?_)
            · replace h := of_ifp h c28
              exact t_X12_run_175 hD hk_X12_run_11 hs27  h
            · replace h := of_ifn h c28
              exact t_X12_run_180 hD hk_X12_run_11 hs27  h
          · replace h := of_ifn h c24
            exact t_X12_run_175 hD hk_X12_run_11 hs22  h
      · replace h := of_ifn h c11
        refine ite_i (fun c29 => ?_) (fun c29 => ?_)
        · replace h := of_ifp h c29
          exact t_X12_run_101 hD hk_X12_run_11 hs9  h
        · replace h := of_ifn h c29
          obtain ⟨g30, h⟩ := of_gd h
          refine ⟨(inB_mp g30), ?_⟩
          exact t_X12_run_101 hD hk_X12_run_11 hs9  h
    · replace h := of_ifn h c2
      exact t_X12_run_254 hD  hs  h
theorem e_X12_run_11 {X : Sx} {l : Launch} {D : Nat} (hD : 1 ≤ D) : ∀ (k : Nat) (x1 : Int32) (x3 : Int32) (x4 : Int32) (x5 : Int32) (σ : AH) (σ' : AH), Sh σ → F_X12_run_11 k x1 x3 x4 x5 σ = some σ' → E X l m_X12_run D 11 [(0, .ref 124), (1, .int x1), (3, .int x3), (4, .int x4), (5, .int x5)] [] σ none σ' := by
  intro k
  induction k with
  | zero => intro x1 x3 x4 x5 σ σ' hs h; cases h
  | succ k ih =>
    intro x1 x3 x4 x5 σ σ' hs h
    exact w_X12_run_11 hs  (t_X12_run_11 hD ih hs  h)
set_option maxRecDepth 100000 in
theorem t_X12_run_0 {X : Sx} {l : Launch} {D : Nat} {x1 : Int32} {x2 : Int32} {x3 : Int32} {σ : AH} {σ' : AH} (hD : 1 ≤ D) (hs : Sh σ) (h : F_X12_run x1 x2 x3 σ = some σ') : W_X12_run_0 X l D x1 x2 x3 σ none σ' := by
  unfold F_X12_run at h
  unfold W_X12_run_0
  exact e_X12_run_11 hD  _ _ _ _ _ _ _ hs  h
theorem f_X12_run {X : Sx} {l : Launch} {x1 : Int32} {x2 : Int32} {x3 : Int32} {σ : AH} {σ' : AH} (hs : Sh σ) (h : F_X12_run x1 x2 x3 σ = some σ') : Call X l m_X12_run 1 [.ref 124, .int x1, .int x2, .int x3] σ none σ' :=
  Call.ofE ok_X12_run rfl (Nat.le_of_ble_eq_true rfl) (w_X12_run_0 hs  (t_X12_run_0 (Nat.le_refl _) hs  h))
def F_X12_holds_113 (x1 : Int32) (x4 : Int32) (σ : AH) : Option (Int32 × AH) := (if inB (x4 + (4 : Int32)) 269832 = true then (if inB (x4 + (5 : Int32)) 269832 = true then (bv (F_X12_run x1 (gI σ 125 (x4 + (4 : Int32)).toNatClampNeg) (gI σ 125 (x4 + (5 : Int32)).toNatClampNeg) σ) fun σ27 => (if (gI (sL σ27 124 31 (gL σ27 124 30)) 124 29) = 0 then (some ((1 : Int32), (sL σ27 124 31 (gL σ27 124 30)))) else (some ((0 : Int32), (sL σ27 124 31 (gL σ27 124 30)))))) else none) else none)
def F_X12_holds (x1 : Int32) (x2 : Int32) (x3 : Int32) (σ : AH) : Option (Int32 × AH) := (bv (F_X12_findForce x3 σ) fun σ2 => (bd (F_X12_clauseAt x1 x2 σ2) fun v11 σ7 => (if inB x1 24 = true then (if (gI σ7 134 x1.toNatClampNeg) = 0 then (some ((0 : Int32), σ7)) else (if inB (((16 : Int32) * x1) + x2) 384 = true then (if (gI σ7 135 (((16 : Int32) * x1) + x2).toNatClampNeg) = 0 then (if inB v11 269832 = true then (if (gI σ7 125 v11.toNatClampNeg) = 0 then (some ((0 : Int32), σ7)) else (if inB (v11 + (6 : Int32)) 269832 = true then (if inB (v11 + (7 : Int32)) 269832 = true then (if (gI σ7 125 (v11 + (7 : Int32)).toNatClampNeg) ≤ (gI σ7 125 (v11 + (6 : Int32)).toNatClampNeg) then (F_X12_holds_113 x1 v11 σ7) else (if inB (v11 + (6 : Int32)) 269832 = true then (if inB (v11 + (7 : Int32)) 269832 = true then (bv (F_X12_run x1 (gI σ7 125 (v11 + (6 : Int32)).toNatClampNeg) (gI σ7 125 (v11 + (7 : Int32)).toNatClampNeg) σ7) fun σ20 => (if (gI σ20 124 29) = 0 then (if (gL σ20 124 30) = (0 : Int64) then (some ((0 : Int32), σ20)) else (F_X12_holds_113 x1 v11 σ20)) else (some ((0 : Int32), σ20)))) else none) else none)) else none) else none)) else none) else (some ((0 : Int32), σ7))) else none)) else none)))
set_option maxRecDepth 100000 in
theorem t_X12_holds_113 {X : Sx} {l : Launch} {D : Nat} {x1 : Int32} {x4 : Int32} {σ : AH} {v : Int32} {σ' : AH} (hD : 3 ≤ D) (hs : Sh σ) (h : F_X12_holds_113 x1 x4 σ = some (v, σ')) : W_X12_holds_113 X l D x1 x4 σ (some (.int v)) σ' := by
  unfold F_X12_holds_113 at h
  unfold W_X12_holds_113
  obtain ⟨g1, h⟩ := of_gd h
  refine ⟨(inB_mp g1), ?_⟩
  obtain ⟨g2, h⟩ := of_gd h
  refine ⟨(inB_mp g2), ?_⟩
  obtain ⟨σ27, q3, h⟩ := of_bv h
  have hC4 := f_X12_run (σ := σ) hs  q3 (X := X) (l := l)
  have hs5 := hC4.1.2.2.2.1 hs
  refine ⟨1, σ27, (Nat.le_trans (by decide) hD), hC4, ?_⟩
  refine ite_i (fun c6 => ?_) (fun c6 => ?_)
  · replace h := of_ifp h c6
    exact ret_i h
  · replace h := of_ifn h c6
    exact ret_i h
set_option maxRecDepth 100000 in
theorem t_X12_holds_0 {X : Sx} {l : Launch} {D : Nat} {x1 : Int32} {x2 : Int32} {x3 : Int32} {σ : AH} {v : Int32} {σ' : AH} (hD : 3 ≤ D) (hs : Sh σ) (h : F_X12_holds x1 x2 x3 σ = some (v, σ')) : W_X12_holds_0 X l D x1 x2 x3 σ (some (.int v)) σ' := by
  unfold F_X12_holds at h
  unfold W_X12_holds_0
  obtain ⟨σ2, q1, h⟩ := of_bv h
  have hC2 := f_X12_findForce (σ := σ) hs  q1 (X := X) (l := l)
  have hs3 := hC2.1.2.2.2.1 hs
  refine ⟨2, σ2, (Nat.le_trans (by decide) hD), hC2, ?_⟩
  obtain ⟨v11, σ7, q4, h⟩ := of_bd h
  have hC5 := f_X12_clauseAt (σ := σ2) hs3  q4 (X := X) (l := l)
  have hs6 := hC5.1.2.2.2.1 hs3
  refine ⟨1, v11, σ7, (Nat.le_trans (by decide) hD), hC5, ?_⟩
  obtain ⟨g7, h⟩ := of_gd h
  refine ⟨(inB_mp g7), ?_⟩
  refine ite_i (fun c8 => ?_) (fun c8 => ?_)
  · replace h := of_ifp h c8
    exact ret_i h
  · replace h := of_ifn h c8
    obtain ⟨g9, h⟩ := of_gd h
    refine ⟨(inB_mp g9), ?_⟩
    refine ite_i (fun c10 => ?_) (fun c10 => ?_)
    · replace h := of_ifp h c10
      obtain ⟨g11, h⟩ := of_gd h
      refine ⟨(inB_mp g11), ?_⟩
      refine ite_i (fun c12 => ?_) (fun c12 => ?_)
      · replace h := of_ifp h c12
        exact ret_i h
      · replace h := of_ifn h c12
        obtain ⟨g13, h⟩ := of_gd h
        refine ⟨(inB_mp g13), ?_⟩
        obtain ⟨g14, h⟩ := of_gd h
        refine ⟨(inB_mp g14), ?_⟩
        refine ite_i (fun c15 => ?_) (fun c15 => ?_)
        · replace h := of_ifp h c15
          exact t_X12_holds_113 hD  hs6  h
        · replace h := of_ifn h c15
          obtain ⟨g16, h⟩ := of_gd h
          refine ⟨(inB_mp g16), ?_⟩
          obtain ⟨g17, h⟩ := of_gd h
          refine ⟨(inB_mp g17), ?_⟩
          obtain ⟨σ20, q18, h⟩ := of_bv h
          have hC19 := f_X12_run (σ := σ7) hs6  q18 (X := X) (l := l)
          have hs20 := hC19.1.2.2.2.1 hs6
          refine ⟨1, σ20, (Nat.le_trans (by decide) hD), hC19, ?_⟩
          refine ite_i (fun c21 => ?_) (fun c21 => ?_)
          · replace h := of_ifp h c21
            refine ite_i (fun c22 => ?_) (fun c22 => ?_)
            · replace h := of_ifp h c22
              exact ret_i h
            · replace h := of_ifn h c22
              exact t_X12_holds_113 hD  hs20  h
          · replace h := of_ifn h c21
            exact ret_i h
    · replace h := of_ifn h c10
      exact ret_i h
theorem f_X12_holds {X : Sx} {l : Launch} {x1 : Int32} {x2 : Int32} {x3 : Int32} {σ : AH} {v : Int32} {σ' : AH} (hs : Sh σ) (h : F_X12_holds x1 x2 x3 σ = some (v, σ')) : Call X l m_X12_holds 3 [.ref 124, .int x1, .int x2, .int x3] σ (some (.int v)) σ' :=
  Call.ofE ok_X12_holds rfl (Nat.le_of_ble_eq_true rfl) (w_X12_holds_0 hs  (t_X12_holds_0 (Nat.le_refl _) hs  h))
def F_X12_find_177 (k_X12_find_14 : Int32 → Int32 → Int32 → Int32 → Int32 → Int32 → Int64 → Int32 → AH → Option (Int32 × AH)) (k_X12_find_28 : Int32 → Int32 → Int32 → Int32 → Int32 → Int32 → Int64 → Int32 → Int32 → AH → Option (Int32 × AH)) (x1 : Int32) (x2 : Int32) (x3 : Int32) (x4 : Int32) (x5 : Int32) (x6 : Int32) (x7 : Int64) (x9 : Int32) (x10 : Int32) (σ : AH) : Option (Int32 × AH) := (k_X12_find_28 x1 x2 x3 x4 x5 x6 x7 x9 (x10 + 1) σ)
def F_X12_find_162 (k_X12_find_14 : Int32 → Int32 → Int32 → Int32 → Int32 → Int32 → Int64 → Int32 → AH → Option (Int32 × AH)) (k_X12_find_28 : Int32 → Int32 → Int32 → Int32 → Int32 → Int32 → Int64 → Int32 → Int32 → AH → Option (Int32 × AH)) (x1 : Int32) (x2 : Int32) (x3 : Int32) (x4 : Int32) (x5 : Int32) (x6 : Int32) (x9 : Int32) (x10 : Int32) (y0 : Int64) (σ : AH) : Option (Int32 × AH) := (F_X12_find_177 k_X12_find_14 k_X12_find_28 x1 x2 x3 x4 x5 x6 y0 x9 x10 (sL σ 124 32 ((gL σ 124 32) + (gL σ 124 31))))
def F_X12_find_116 (k_X12_find_14 : Int32 → Int32 → Int32 → Int32 → Int32 → Int32 → Int64 → Int32 → AH → Option (Int32 × AH)) (k_X12_find_28 : Int32 → Int32 → Int32 → Int32 → Int32 → Int32 → Int64 → Int32 → Int32 → AH → Option (Int32 × AH)) (x1 : Int32) (x2 : Int32) (x3 : Int32) (x4 : Int32) (x5 : Int32) (x6 : Int32) (x7 : Int64) (x9 : Int32) (x10 : Int32) (x11 : Int32) (y0 : Int32) (σ : AH) : Option (Int32 × AH) := (if y0 = 0 then (F_X12_find_177 k_X12_find_14 k_X12_find_28 x1 x2 x3 x4 x5 x6 x7 x9 x10 σ) else (bd (F_X12_holds x9 x10 x5 σ) fun v23 σ19 => (if v23 = 0 then (F_X12_find_177 k_X12_find_14 k_X12_find_28 x1 x2 x3 x4 x5 x6 x7 x9 x10 σ19) else (if x1 = (8 : Int32) then (if inB (x11 + (1 : Int32)) 269832 = true then (F_X12_find_162 k_X12_find_14 k_X12_find_28 x1 x2 x3 x4 x5 (1 : Int32) x9 x10 (((gI σ19 125 (x11 + (1 : Int32)).toNatClampNeg)).toInt64) σ19) else none) else (F_X12_find_162 k_X12_find_14 k_X12_find_28 x1 x2 x3 x4 x5 (1 : Int32) x9 x10 (gL σ19 124 31) σ19)))))
def F_X12_find_111 (k_X12_find_14 : Int32 → Int32 → Int32 → Int32 → Int32 → Int32 → Int64 → Int32 → AH → Option (Int32 × AH)) (k_X12_find_28 : Int32 → Int32 → Int32 → Int32 → Int32 → Int32 → Int64 → Int32 → Int32 → AH → Option (Int32 × AH)) (x1 : Int32) (x2 : Int32) (x3 : Int32) (x4 : Int32) (x5 : Int32) (x6 : Int32) (x7 : Int64) (x9 : Int32) (x10 : Int32) (x11 : Int32) (σ : AH) : Option (Int32 × AH) := (F_X12_find_116 k_X12_find_14 k_X12_find_28 x1 x2 x3 x4 x5 x6 x7 x9 x10 x11 (1 : Int32) σ)
def F_X12_find_115 (k_X12_find_14 : Int32 → Int32 → Int32 → Int32 → Int32 → Int32 → Int64 → Int32 → AH → Option (Int32 × AH)) (k_X12_find_28 : Int32 → Int32 → Int32 → Int32 → Int32 → Int32 → Int64 → Int32 → Int32 → AH → Option (Int32 × AH)) (x1 : Int32) (x2 : Int32) (x3 : Int32) (x4 : Int32) (x5 : Int32) (x6 : Int32) (x7 : Int64) (x9 : Int32) (x10 : Int32) (x11 : Int32) (σ : AH) : Option (Int32 × AH) := (F_X12_find_116 k_X12_find_14 k_X12_find_28 x1 x2 x3 x4 x5 x6 x7 x9 x10 x11 (0 : Int32) σ)
def B_X12_find_28 (k_X12_find_14 : Int32 → Int32 → Int32 → Int32 → Int32 → Int32 → Int64 → Int32 → AH → Option (Int32 × AH)) (k_X12_find_28 : Int32 → Int32 → Int32 → Int32 → Int32 → Int32 → Int64 → Int32 → Int32 → AH → Option (Int32 × AH)) (x1 : Int32) (x2 : Int32) (x3 : Int32) (x4 : Int32) (x5 : Int32) (x6 : Int32) (x7 : Int64) (x9 : Int32) (x10 : Int32) (σ : AH) : Option (Int32 × AH) := (bd (F_X12_actAt x9 σ) fun v6 σ2 => (if inB (v6 + (2 : Int32)) 269832 = true then (if (gI σ2 125 (v6 + (2 : Int32)).toNatClampNeg) ≤ x10 then (k_X12_find_14 x1 x2 x3 x4 x5 x6 x7 (x9 + 1) σ2) else (bd (F_X12_clauseAt x9 x10 σ2) fun v13 σ9 => (if inB v13 269832 = true then (if (gI σ9 125 v13.toNatClampNeg) = x1 then (if x1 = (8 : Int32) then (F_X12_find_111 k_X12_find_14 k_X12_find_28 x1 x2 x3 x4 x5 x6 x7 x9 x10 v13 σ9) else (if inB (v13 + (1 : Int32)) 269832 = true then (if (gI σ9 125 (v13 + (1 : Int32)).toNatClampNeg) = x2 then (if inB (v13 + (2 : Int32)) 269832 = true then (if (gI σ9 125 (v13 + (2 : Int32)).toNatClampNeg) = x3 then (if inB (v13 + (3 : Int32)) 269832 = true then (if (gI σ9 125 (v13 + (3 : Int32)).toNatClampNeg) = x4 then (F_X12_find_111 k_X12_find_14 k_X12_find_28 x1 x2 x3 x4 x5 x6 x7 x9 x10 v13 σ9) else (F_X12_find_115 k_X12_find_14 k_X12_find_28 x1 x2 x3 x4 x5 x6 x7 x9 x10 v13 σ9)) else none) else (F_X12_find_115 k_X12_find_14 k_X12_find_28 x1 x2 x3 x4 x5 x6 x7 x9 x10 v13 σ9)) else none) else (F_X12_find_115 k_X12_find_14 k_X12_find_28 x1 x2 x3 x4 x5 x6 x7 x9 x10 v13 σ9)) else none)) else (F_X12_find_115 k_X12_find_14 k_X12_find_28 x1 x2 x3 x4 x5 x6 x7 x9 x10 v13 σ9)) else none))) else none))
def F_X12_find_28 (k_X12_find_14 : Int32 → Int32 → Int32 → Int32 → Int32 → Int32 → Int64 → Int32 → AH → Option (Int32 × AH)) : Nat → Int32 → Int32 → Int32 → Int32 → Int32 → Int32 → Int64 → Int32 → Int32 → AH → Option (Int32 × AH) := fun k => match k with | 0 => fun _ _ _ _ _ _ _ _ _ _ => none | k + 1 => B_X12_find_28 k_X12_find_14 (F_X12_find_28 k_X12_find_14 k)
def B_X12_find_14 (k_X12_find_14 : Int32 → Int32 → Int32 → Int32 → Int32 → Int32 → Int64 → Int32 → AH → Option (Int32 × AH)) (x1 : Int32) (x2 : Int32) (x3 : Int32) (x4 : Int32) (x5 : Int32) (x6 : Int32) (x7 : Int64) (x9 : Int32) (σ : AH) : Option (Int32 × AH) := (if (gI σ 125 0) ≤ x9 then (if x6 = 0 ∨ x6 = 1 then some (x6, (sL σ 124 31 x7)) else none) else (F_X12_find_28 k_X12_find_14 BIG x1 x2 x3 x4 x5 x6 x7 x9 (0 : Int32) σ))
def F_X12_find_14 : Nat → Int32 → Int32 → Int32 → Int32 → Int32 → Int32 → Int64 → Int32 → AH → Option (Int32 × AH) := fun k => match k with | 0 => fun _ _ _ _ _ _ _ _ _ => none | k + 1 => B_X12_find_14 (F_X12_find_14 k)
def F_X12_find (x1 : Int32) (x2 : Int32) (x3 : Int32) (x4 : Int32) (x5 : Int32) (σ : AH) : Option (Int32 × AH) := (F_X12_find_14 BIG x1 x2 x3 x4 x5 (0 : Int32) (0 : Int64) (0 : Int32) (sL σ 124 32 (0 : Int64)))
set_option maxRecDepth 100000 in
theorem t_X12_find_177 {X : Sx} {l : Launch} {D : Nat} {k_X12_find_14 : Int32 → Int32 → Int32 → Int32 → Int32 → Int32 → Int64 → Int32 → AH → Option (Int32 × AH)} {k_X12_find_28 : Int32 → Int32 → Int32 → Int32 → Int32 → Int32 → Int64 → Int32 → Int32 → AH → Option (Int32 × AH)} {x1 : Int32} {x2 : Int32} {x3 : Int32} {x4 : Int32} {x5 : Int32} {x6 : Int32} {x7 : Int64} {x9 : Int32} {x10 : Int32} {σ : AH} {v : Int32} {σ' : AH} (hD : 4 ≤ D) (hk_X12_find_14 : ∀ (x1 : Int32) (x2 : Int32) (x3 : Int32) (x4 : Int32) (x5 : Int32) (x6 : Int32) (x7 : Int64) (x9 : Int32) (σ : AH) (v : Int32) (σ' : AH), Sh σ → k_X12_find_14 x1 x2 x3 x4 x5 x6 x7 x9 σ = some (v, σ') → E X l m_X12_find D 14 [(0, .ref 124), (1, .int x1), (2, .int x2), (3, .int x3), (4, .int x4), (5, .int x5), (6, .int x6), (7, .long x7), (9, .int x9)] [] σ (some (.int v)) σ') (hk_X12_find_28 : ∀ (x1 : Int32) (x2 : Int32) (x3 : Int32) (x4 : Int32) (x5 : Int32) (x6 : Int32) (x7 : Int64) (x9 : Int32) (x10 : Int32) (σ : AH) (v : Int32) (σ' : AH), Sh σ → k_X12_find_28 x1 x2 x3 x4 x5 x6 x7 x9 x10 σ = some (v, σ') → E X l m_X12_find D 28 [(0, .ref 124), (1, .int x1), (2, .int x2), (3, .int x3), (4, .int x4), (5, .int x5), (6, .int x6), (7, .long x7), (9, .int x9), (10, .int x10)] [] σ (some (.int v)) σ') (hs : Sh σ) (h : F_X12_find_177 k_X12_find_14 k_X12_find_28 x1 x2 x3 x4 x5 x6 x7 x9 x10 σ = some (v, σ')) : W_X12_find_177 X l D x1 x2 x3 x4 x5 x6 x7 x9 x10 σ (some (.int v)) σ' := by
  unfold F_X12_find_177 at h
  unfold W_X12_find_177
  exact hk_X12_find_28 _ _ _ _ _ _ _ _ _ _ _ _ hs  h
set_option maxRecDepth 100000 in
theorem t_X12_find_162 {X : Sx} {l : Launch} {D : Nat} {k_X12_find_14 : Int32 → Int32 → Int32 → Int32 → Int32 → Int32 → Int64 → Int32 → AH → Option (Int32 × AH)} {k_X12_find_28 : Int32 → Int32 → Int32 → Int32 → Int32 → Int32 → Int64 → Int32 → Int32 → AH → Option (Int32 × AH)} {x1 : Int32} {x2 : Int32} {x3 : Int32} {x4 : Int32} {x5 : Int32} {x6 : Int32} {x9 : Int32} {x10 : Int32} {y0 : Int64} {σ : AH} {v : Int32} {σ' : AH} (hD : 4 ≤ D) (hk_X12_find_14 : ∀ (x1 : Int32) (x2 : Int32) (x3 : Int32) (x4 : Int32) (x5 : Int32) (x6 : Int32) (x7 : Int64) (x9 : Int32) (σ : AH) (v : Int32) (σ' : AH), Sh σ → k_X12_find_14 x1 x2 x3 x4 x5 x6 x7 x9 σ = some (v, σ') → E X l m_X12_find D 14 [(0, .ref 124), (1, .int x1), (2, .int x2), (3, .int x3), (4, .int x4), (5, .int x5), (6, .int x6), (7, .long x7), (9, .int x9)] [] σ (some (.int v)) σ') (hk_X12_find_28 : ∀ (x1 : Int32) (x2 : Int32) (x3 : Int32) (x4 : Int32) (x5 : Int32) (x6 : Int32) (x7 : Int64) (x9 : Int32) (x10 : Int32) (σ : AH) (v : Int32) (σ' : AH), Sh σ → k_X12_find_28 x1 x2 x3 x4 x5 x6 x7 x9 x10 σ = some (v, σ') → E X l m_X12_find D 28 [(0, .ref 124), (1, .int x1), (2, .int x2), (3, .int x3), (4, .int x4), (5, .int x5), (6, .int x6), (7, .long x7), (9, .int x9), (10, .int x10)] [] σ (some (.int v)) σ') (hs : Sh σ) (h : F_X12_find_162 k_X12_find_14 k_X12_find_28 x1 x2 x3 x4 x5 x6 x9 x10 y0 σ = some (v, σ')) : W_X12_find_162 X l D x1 x2 x3 x4 x5 x6 x9 x10 y0 σ (some (.int v)) σ' := by
  unfold F_X12_find_162 at h
  unfold W_X12_find_162
  exact t_X12_find_177 hD hk_X12_find_14 hk_X12_find_28 hs  h
set_option maxRecDepth 100000 in
theorem t_X12_find_116 {X : Sx} {l : Launch} {D : Nat} {k_X12_find_14 : Int32 → Int32 → Int32 → Int32 → Int32 → Int32 → Int64 → Int32 → AH → Option (Int32 × AH)} {k_X12_find_28 : Int32 → Int32 → Int32 → Int32 → Int32 → Int32 → Int64 → Int32 → Int32 → AH → Option (Int32 × AH)} {x1 : Int32} {x2 : Int32} {x3 : Int32} {x4 : Int32} {x5 : Int32} {x6 : Int32} {x7 : Int64} {x9 : Int32} {x10 : Int32} {x11 : Int32} {y0 : Int32} {σ : AH} {v : Int32} {σ' : AH} (hD : 4 ≤ D) (hk_X12_find_14 : ∀ (x1 : Int32) (x2 : Int32) (x3 : Int32) (x4 : Int32) (x5 : Int32) (x6 : Int32) (x7 : Int64) (x9 : Int32) (σ : AH) (v : Int32) (σ' : AH), Sh σ → k_X12_find_14 x1 x2 x3 x4 x5 x6 x7 x9 σ = some (v, σ') → E X l m_X12_find D 14 [(0, .ref 124), (1, .int x1), (2, .int x2), (3, .int x3), (4, .int x4), (5, .int x5), (6, .int x6), (7, .long x7), (9, .int x9)] [] σ (some (.int v)) σ') (hk_X12_find_28 : ∀ (x1 : Int32) (x2 : Int32) (x3 : Int32) (x4 : Int32) (x5 : Int32) (x6 : Int32) (x7 : Int64) (x9 : Int32) (x10 : Int32) (σ : AH) (v : Int32) (σ' : AH), Sh σ → k_X12_find_28 x1 x2 x3 x4 x5 x6 x7 x9 x10 σ = some (v, σ') → E X l m_X12_find D 28 [(0, .ref 124), (1, .int x1), (2, .int x2), (3, .int x3), (4, .int x4), (5, .int x5), (6, .int x6), (7, .long x7), (9, .int x9), (10, .int x10)] [] σ (some (.int v)) σ') (hs : Sh σ) (h : F_X12_find_116 k_X12_find_14 k_X12_find_28 x1 x2 x3 x4 x5 x6 x7 x9 x10 x11 y0 σ = some (v, σ')) : W_X12_find_116 X l D x1 x2 x3 x4 x5 x6 x7 x9 x10 x11 y0 σ (some (.int v)) σ' := by
  unfold F_X12_find_116 at h
  unfold W_X12_find_116
  refine ite_i (fun c1 => ?_) (fun c1 => ?_)
  · replace h := of_ifp h c1
    exact t_X12_find_177 hD hk_X12_find_14 hk_X12_find_28 hs  h
  · replace h := of_ifn h c1
    obtain ⟨v23, σ19, q2, h⟩ := of_bd h
    have hC3 := f_X12_holds (σ := σ) hs  q2 (X := X) (l := l)
    have hs4 := hC3.1.2.2.2.1 hs
    refine ⟨3, v23, σ19, (Nat.le_trans (by decide) hD), hC3, ?_⟩
    refine ite_i (fun c5 => ?_) (fun c5 => ?_)
    · replace h := of_ifp h c5
      exact t_X12_find_177 hD hk_X12_find_14 hk_X12_find_28 hs4  h
    · replace h := of_ifn h c5
      refine ite_i (fun c6 => ?_) (fun c6 => ?_)
      · replace h := of_ifp h c6
        obtain ⟨g7, h⟩ := of_gd h
        refine ⟨(inB_mp g7), ?_⟩
        exact t_X12_find_162 hD hk_X12_find_14 hk_X12_find_28 hs4  h
      · replace h := of_ifn h c6
        exact t_X12_find_162 hD hk_X12_find_14 hk_X12_find_28 hs4  h
set_option maxRecDepth 100000 in
theorem t_X12_find_111 {X : Sx} {l : Launch} {D : Nat} {k_X12_find_14 : Int32 → Int32 → Int32 → Int32 → Int32 → Int32 → Int64 → Int32 → AH → Option (Int32 × AH)} {k_X12_find_28 : Int32 → Int32 → Int32 → Int32 → Int32 → Int32 → Int64 → Int32 → Int32 → AH → Option (Int32 × AH)} {x1 : Int32} {x2 : Int32} {x3 : Int32} {x4 : Int32} {x5 : Int32} {x6 : Int32} {x7 : Int64} {x9 : Int32} {x10 : Int32} {x11 : Int32} {σ : AH} {v : Int32} {σ' : AH} (hD : 4 ≤ D) (hk_X12_find_14 : ∀ (x1 : Int32) (x2 : Int32) (x3 : Int32) (x4 : Int32) (x5 : Int32) (x6 : Int32) (x7 : Int64) (x9 : Int32) (σ : AH) (v : Int32) (σ' : AH), Sh σ → k_X12_find_14 x1 x2 x3 x4 x5 x6 x7 x9 σ = some (v, σ') → E X l m_X12_find D 14 [(0, .ref 124), (1, .int x1), (2, .int x2), (3, .int x3), (4, .int x4), (5, .int x5), (6, .int x6), (7, .long x7), (9, .int x9)] [] σ (some (.int v)) σ') (hk_X12_find_28 : ∀ (x1 : Int32) (x2 : Int32) (x3 : Int32) (x4 : Int32) (x5 : Int32) (x6 : Int32) (x7 : Int64) (x9 : Int32) (x10 : Int32) (σ : AH) (v : Int32) (σ' : AH), Sh σ → k_X12_find_28 x1 x2 x3 x4 x5 x6 x7 x9 x10 σ = some (v, σ') → E X l m_X12_find D 28 [(0, .ref 124), (1, .int x1), (2, .int x2), (3, .int x3), (4, .int x4), (5, .int x5), (6, .int x6), (7, .long x7), (9, .int x9), (10, .int x10)] [] σ (some (.int v)) σ') (hs : Sh σ) (h : F_X12_find_111 k_X12_find_14 k_X12_find_28 x1 x2 x3 x4 x5 x6 x7 x9 x10 x11 σ = some (v, σ')) : W_X12_find_111 X l D x1 x2 x3 x4 x5 x6 x7 x9 x10 x11 σ (some (.int v)) σ' := by
  unfold F_X12_find_111 at h
  unfold W_X12_find_111
  exact t_X12_find_116 hD hk_X12_find_14 hk_X12_find_28 hs  h
set_option maxRecDepth 100000 in
theorem t_X12_find_115 {X : Sx} {l : Launch} {D : Nat} {k_X12_find_14 : Int32 → Int32 → Int32 → Int32 → Int32 → Int32 → Int64 → Int32 → AH → Option (Int32 × AH)} {k_X12_find_28 : Int32 → Int32 → Int32 → Int32 → Int32 → Int32 → Int64 → Int32 → Int32 → AH → Option (Int32 × AH)} {x1 : Int32} {x2 : Int32} {x3 : Int32} {x4 : Int32} {x5 : Int32} {x6 : Int32} {x7 : Int64} {x9 : Int32} {x10 : Int32} {x11 : Int32} {σ : AH} {v : Int32} {σ' : AH} (hD : 4 ≤ D) (hk_X12_find_14 : ∀ (x1 : Int32) (x2 : Int32) (x3 : Int32) (x4 : Int32) (x5 : Int32) (x6 : Int32) (x7 : Int64) (x9 : Int32) (σ : AH) (v : Int32) (σ' : AH), Sh σ → k_X12_find_14 x1 x2 x3 x4 x5 x6 x7 x9 σ = some (v, σ') → E X l m_X12_find D 14 [(0, .ref 124), (1, .int x1), (2, .int x2), (3, .int x3), (4, .int x4), (5, .int x5), (6, .int x6), (7, .long x7), (9, .int x9)] [] σ (some (.int v)) σ') (hk_X12_find_28 : ∀ (x1 : Int32) (x2 : Int32) (x3 : Int32) (x4 : Int32) (x5 : Int32) (x6 : Int32) (x7 : Int64) (x9 : Int32) (x10 : Int32) (σ : AH) (v : Int32) (σ' : AH), Sh σ → k_X12_find_28 x1 x2 x3 x4 x5 x6 x7 x9 x10 σ = some (v, σ') → E X l m_X12_find D 28 [(0, .ref 124), (1, .int x1), (2, .int x2), (3, .int x3), (4, .int x4), (5, .int x5), (6, .int x6), (7, .long x7), (9, .int x9), (10, .int x10)] [] σ (some (.int v)) σ') (hs : Sh σ) (h : F_X12_find_115 k_X12_find_14 k_X12_find_28 x1 x2 x3 x4 x5 x6 x7 x9 x10 x11 σ = some (v, σ')) : W_X12_find_115 X l D x1 x2 x3 x4 x5 x6 x7 x9 x10 x11 σ (some (.int v)) σ' := by
  unfold F_X12_find_115 at h
  unfold W_X12_find_115
  exact t_X12_find_116 hD hk_X12_find_14 hk_X12_find_28 hs  h
set_option maxRecDepth 100000 in
theorem t_X12_find_28 {X : Sx} {l : Launch} {D : Nat} {k_X12_find_14 : Int32 → Int32 → Int32 → Int32 → Int32 → Int32 → Int64 → Int32 → AH → Option (Int32 × AH)} {k_X12_find_28 : Int32 → Int32 → Int32 → Int32 → Int32 → Int32 → Int64 → Int32 → Int32 → AH → Option (Int32 × AH)} {x1 : Int32} {x2 : Int32} {x3 : Int32} {x4 : Int32} {x5 : Int32} {x6 : Int32} {x7 : Int64} {x9 : Int32} {x10 : Int32} {σ : AH} {v : Int32} {σ' : AH} (hD : 4 ≤ D) (hk_X12_find_14 : ∀ (x1 : Int32) (x2 : Int32) (x3 : Int32) (x4 : Int32) (x5 : Int32) (x6 : Int32) (x7 : Int64) (x9 : Int32) (σ : AH) (v : Int32) (σ' : AH), Sh σ → k_X12_find_14 x1 x2 x3 x4 x5 x6 x7 x9 σ = some (v, σ') → E X l m_X12_find D 14 [(0, .ref 124), (1, .int x1), (2, .int x2), (3, .int x3), (4, .int x4), (5, .int x5), (6, .int x6), (7, .long x7), (9, .int x9)] [] σ (some (.int v)) σ') (hk_X12_find_28 : ∀ (x1 : Int32) (x2 : Int32) (x3 : Int32) (x4 : Int32) (x5 : Int32) (x6 : Int32) (x7 : Int64) (x9 : Int32) (x10 : Int32) (σ : AH) (v : Int32) (σ' : AH), Sh σ → k_X12_find_28 x1 x2 x3 x4 x5 x6 x7 x9 x10 σ = some (v, σ') → E X l m_X12_find D 28 [(0, .ref 124), (1, .int x1), (2, .int x2), (3, .int x3), (4, .int x4), (5, .int x5), (6, .int x6), (7, .long x7), (9, .int x9), (10, .int x10)] [] σ (some (.int v)) σ') (hs : Sh σ) (h : B_X12_find_28 k_X12_find_14 k_X12_find_28 x1 x2 x3 x4 x5 x6 x7 x9 x10 σ = some (v, σ')) : W_X12_find_28 X l D x1 x2 x3 x4 x5 x6 x7 x9 x10 σ (some (.int v)) σ' := by
  unfold B_X12_find_28 at h
  unfold W_X12_find_28
  obtain ⟨v6, σ2, q1, h⟩ := of_bd h
  have hC2 := f_X12_actAt (σ := σ) hs  q1 (X := X) (l := l)
  have hs3 := hC2.1.2.2.2.1 hs
  refine ⟨0, v6, σ2, (Nat.le_trans (by decide) hD), hC2, ?_⟩
  obtain ⟨g4, h⟩ := of_gd h
  refine ⟨(inB_mp g4), ?_⟩
  refine ite_i (fun c5 => ?_) (fun c5 => ?_)
  · replace h := of_ifp h c5
    exact hk_X12_find_14 _ _ _ _ _ _ _ _ _ _ _ hs3  h
  · replace h := of_ifn h c5
    obtain ⟨v13, σ9, q6, h⟩ := of_bd h
    have hC7 := f_X12_clauseAt (σ := σ2) hs3  q6 (X := X) (l := l)
    have hs8 := hC7.1.2.2.2.1 hs3
    refine ⟨1, v13, σ9, (Nat.le_trans (by decide) hD), hC7, ?_⟩
    obtain ⟨g9, h⟩ := of_gd h
    refine ⟨(inB_mp g9), ?_⟩
    refine ite_i (fun c10 => ?_) (fun c10 => ?_)
    · replace h := of_ifp h c10
      refine ite_i (fun c11 => ?_) (fun c11 => ?_)
      · replace h := of_ifp h c11
        exact t_X12_find_111 hD hk_X12_find_14 hk_X12_find_28 hs8  h
      · replace h := of_ifn h c11
        obtain ⟨g12, h⟩ := of_gd h
        refine ⟨(inB_mp g12), ?_⟩
        refine ite_i (fun c13 => ?_) (fun c13 => ?_)
        · replace h := of_ifp h c13
          obtain ⟨g14, h⟩ := of_gd h
          refine ⟨(inB_mp g14), ?_⟩
          refine ite_i (fun c15 => ?_) (fun c15 => ?_)
          · replace h := of_ifp h c15
            obtain ⟨g16, h⟩ := of_gd h
            refine ⟨(inB_mp g16), ?_⟩
            refine ite_i (fun c17 => ?_) (fun c17 => ?_)
            · replace h := of_ifp h c17
              exact t_X12_find_111 hD hk_X12_find_14 hk_X12_find_28 hs8  h
            · replace h := of_ifn h c17
              exact t_X12_find_115 hD hk_X12_find_14 hk_X12_find_28 hs8  h
          · replace h := of_ifn h c15
            exact t_X12_find_115 hD hk_X12_find_14 hk_X12_find_28 hs8  h
        · replace h := of_ifn h c13
          exact t_X12_find_115 hD hk_X12_find_14 hk_X12_find_28 hs8  h
    · replace h := of_ifn h c10
      exact t_X12_find_115 hD hk_X12_find_14 hk_X12_find_28 hs8  h
theorem e_X12_find_28 {X : Sx} {l : Launch} {D : Nat} {k_X12_find_14 : Int32 → Int32 → Int32 → Int32 → Int32 → Int32 → Int64 → Int32 → AH → Option (Int32 × AH)} (hD : 4 ≤ D) (hk_X12_find_14 : ∀ (x1 : Int32) (x2 : Int32) (x3 : Int32) (x4 : Int32) (x5 : Int32) (x6 : Int32) (x7 : Int64) (x9 : Int32) (σ : AH) (v : Int32) (σ' : AH), Sh σ → k_X12_find_14 x1 x2 x3 x4 x5 x6 x7 x9 σ = some (v, σ') → E X l m_X12_find D 14 [(0, .ref 124), (1, .int x1), (2, .int x2), (3, .int x3), (4, .int x4), (5, .int x5), (6, .int x6), (7, .long x7), (9, .int x9)] [] σ (some (.int v)) σ') : ∀ (k : Nat) (x1 : Int32) (x2 : Int32) (x3 : Int32) (x4 : Int32) (x5 : Int32) (x6 : Int32) (x7 : Int64) (x9 : Int32) (x10 : Int32) (σ : AH) (v : Int32) (σ' : AH), Sh σ → F_X12_find_28 k_X12_find_14 k x1 x2 x3 x4 x5 x6 x7 x9 x10 σ = some (v, σ') → E X l m_X12_find D 28 [(0, .ref 124), (1, .int x1), (2, .int x2), (3, .int x3), (4, .int x4), (5, .int x5), (6, .int x6), (7, .long x7), (9, .int x9), (10, .int x10)] [] σ (some (.int v)) σ' := by
  intro k
  induction k with
  | zero => intro x1 x2 x3 x4 x5 x6 x7 x9 x10 σ v σ' hs h; cases h
  | succ k ih =>
    intro x1 x2 x3 x4 x5 x6 x7 x9 x10 σ v σ' hs h
    exact w_X12_find_28 hs  (t_X12_find_28 hD hk_X12_find_14 ih hs  h)
set_option maxRecDepth 100000 in
theorem t_X12_find_14 {X : Sx} {l : Launch} {D : Nat} {k_X12_find_14 : Int32 → Int32 → Int32 → Int32 → Int32 → Int32 → Int64 → Int32 → AH → Option (Int32 × AH)} {x1 : Int32} {x2 : Int32} {x3 : Int32} {x4 : Int32} {x5 : Int32} {x6 : Int32} {x7 : Int64} {x9 : Int32} {σ : AH} {v : Int32} {σ' : AH} (hD : 4 ≤ D) (hk_X12_find_14 : ∀ (x1 : Int32) (x2 : Int32) (x3 : Int32) (x4 : Int32) (x5 : Int32) (x6 : Int32) (x7 : Int64) (x9 : Int32) (σ : AH) (v : Int32) (σ' : AH), Sh σ → k_X12_find_14 x1 x2 x3 x4 x5 x6 x7 x9 σ = some (v, σ') → E X l m_X12_find D 14 [(0, .ref 124), (1, .int x1), (2, .int x2), (3, .int x3), (4, .int x4), (5, .int x5), (6, .int x6), (7, .long x7), (9, .int x9)] [] σ (some (.int v)) σ') (hs : Sh σ) (h : B_X12_find_14 k_X12_find_14 x1 x2 x3 x4 x5 x6 x7 x9 σ = some (v, σ')) : W_X12_find_14 X l D x1 x2 x3 x4 x5 x6 x7 x9 σ (some (.int v)) σ' := by
  unfold B_X12_find_14 at h
  unfold W_X12_find_14
  refine ite_i (fun c1 => ?_) (fun c1 => ?_)
  · replace h := of_ifp h c1
    exact ⟨(of_gd h).1, ret_i (of_gd h).2⟩
  · replace h := of_ifn h c1
    exact e_X12_find_28 hD hk_X12_find_14 _ _ _ _ _ _ _ _ _ _ _ _ _ hs  h
theorem e_X12_find_14 {X : Sx} {l : Launch} {D : Nat} (hD : 4 ≤ D) : ∀ (k : Nat) (x1 : Int32) (x2 : Int32) (x3 : Int32) (x4 : Int32) (x5 : Int32) (x6 : Int32) (x7 : Int64) (x9 : Int32) (σ : AH) (v : Int32) (σ' : AH), Sh σ → F_X12_find_14 k x1 x2 x3 x4 x5 x6 x7 x9 σ = some (v, σ') → E X l m_X12_find D 14 [(0, .ref 124), (1, .int x1), (2, .int x2), (3, .int x3), (4, .int x4), (5, .int x5), (6, .int x6), (7, .long x7), (9, .int x9)] [] σ (some (.int v)) σ' := by
  intro k
  induction k with
  | zero => intro x1 x2 x3 x4 x5 x6 x7 x9 σ v σ' hs h; cases h
  | succ k ih =>
    intro x1 x2 x3 x4 x5 x6 x7 x9 σ v σ' hs h
    exact w_X12_find_14 hs  (t_X12_find_14 hD ih hs  h)
set_option maxRecDepth 100000 in
theorem t_X12_find_0 {X : Sx} {l : Launch} {D : Nat} {x1 : Int32} {x2 : Int32} {x3 : Int32} {x4 : Int32} {x5 : Int32} {σ : AH} {v : Int32} {σ' : AH} (hD : 4 ≤ D) (hs : Sh σ) (h : F_X12_find x1 x2 x3 x4 x5 σ = some (v, σ')) : W_X12_find_0 X l D x1 x2 x3 x4 x5 σ (some (.int v)) σ' := by
  unfold F_X12_find at h
  unfold W_X12_find_0
  exact e_X12_find_14 hD  _ _ _ _ _ _ _ _ _ _ _ _ hs  h
theorem f_X12_find {X : Sx} {l : Launch} {x1 : Int32} {x2 : Int32} {x3 : Int32} {x4 : Int32} {x5 : Int32} {σ : AH} {v : Int32} {σ' : AH} (hs : Sh σ) (h : F_X12_find x1 x2 x3 x4 x5 σ = some (v, σ')) : Call X l m_X12_find 4 [.ref 124, .int x1, .int x2, .int x3, .int x4, .int x5] σ (some (.int v)) σ' :=
  Call.ofE ok_X12_find rfl (Nat.le_of_ble_eq_true rfl) (w_X12_find_0 hs  (t_X12_find_0 (Nat.le_refl _) hs  h))
def F_X12_atLeastNought (σ : AH) : Option (Int32 × AH) := (if (0 : Int64) ≤ (gL σ 124 31) then (some (((gL σ 124 31)).toInt32, σ)) else (some ((0 : Int32), σ)))
set_option maxRecDepth 100000 in
theorem t_X12_atLeastNought_0 {X : Sx} {l : Launch} {D : Nat} {σ : AH} {v : Int32} {σ' : AH} (hD : 0 ≤ D) (hs : Sh σ) (h : F_X12_atLeastNought σ = some (v, σ')) : W_X12_atLeastNought_0 X l D σ (some (.int v)) σ' := by
  unfold F_X12_atLeastNought at h
  unfold W_X12_atLeastNought_0
  refine ite_i (fun c1 => ?_) (fun c1 => ?_)
  · replace h := of_ifp h c1
    exact ret_i h
  · replace h := of_ifn h c1
    exact ret_i h
theorem f_X12_atLeastNought {X : Sx} {l : Launch} {σ : AH} {v : Int32} {σ' : AH} (hs : Sh σ) (h : F_X12_atLeastNought σ = some (v, σ')) : Call X l m_X12_atLeastNought 0 [.ref 124] σ (some (.int v)) σ' :=
  Call.ofE ok_X12_atLeastNought rfl (Nat.le_of_ble_eq_true rfl) (w_X12_atLeastNought_0 hs  (t_X12_atLeastNought_0 (Nat.le_refl _) hs  h))
def F_X12_counts_90 (x2 : Int32) (y0 : Int32) (y1 : Int32) (σ : AH) : Option (Int32 × AH) := (bd (F_X12_find y1 y0 (0 : Int32) (0 : Int32) x2 σ) fun v34 σ30 => (if v34 = 0 then (some ((-1 : Int32), σ30)) else (bd (F_X12_atLeastNought σ30) fun v40 σ36 => (some (v40, σ36)))))
def F_X12_counts_75 (x1 : Int32) (x2 : Int32) (y0 : Int32) (σ : AH) : Option (Int32 × AH) := (if (3 : Int32) ≤ x1 then (F_X12_counts_90 x2 (0 : Int32) y0 σ) else (F_X12_counts_90 x2 x1 y0 σ))
def F_X12_counts (x1 : Int32) (x2 : Int32) (x3 : Int32) (σ : AH) : Option (Int32 × AH) := (bd (F_X12_in (x1).toInt64 (0 : Int64) (5 : Int64) (sI σ 124 0 (0 : Int32))) fun v6 σ2 => (if v6 = 0 then (some ((-1 : Int32), σ2)) else (bd (F_X12_isWeek x2 σ2) fun v12 σ8 => (if v12 = 0 then (some ((-1 : Int32), σ8)) else (bd (F_X12_isWeek x3 σ8) fun v18 σ14 => (if v18 = 0 then (some ((-1 : Int32), σ14)) else (bv (F_X12_knowBy x3 σ14) fun σ20 => (bv (F_X12_setOnly (0 : Int32) x2 σ20) fun σ25 => (if (3 : Int32) ≤ x1 then (if x1 = (3 : Int32) then (F_X12_counts_75 x1 x2 (6 : Int32) σ25) else (if x1 = (4 : Int32) then (F_X12_counts_75 x1 x2 (7 : Int32) σ25) else (F_X12_counts_75 x1 x2 (8 : Int32) σ25))) else (F_X12_counts_75 x1 x2 (4 : Int32) σ25))))))))))
set_option maxRecDepth 100000 in
theorem t_X12_counts_90 {X : Sx} {l : Launch} {D : Nat} {x2 : Int32} {y0 : Int32} {y1 : Int32} {σ : AH} {v : Int32} {σ' : AH} (hD : 5 ≤ D) (hs : Sh σ) (h : F_X12_counts_90 x2 y0 y1 σ = some (v, σ')) : W_X12_counts_90 X l D x2 y0 y1 σ (some (.int v)) σ' := by
  unfold F_X12_counts_90 at h
  unfold W_X12_counts_90
  obtain ⟨v34, σ30, q1, h⟩ := of_bd h
  have hC2 := f_X12_find (σ := σ) hs  q1 (X := X) (l := l)
  have hs3 := hC2.1.2.2.2.1 hs
  refine ⟨4, v34, σ30, (Nat.le_trans (by decide) hD), hC2, ?_⟩
  refine ite_i (fun c4 => ?_) (fun c4 => ?_)
  · replace h := of_ifp h c4
    exact ret_i h
  · replace h := of_ifn h c4
    obtain ⟨v40, σ36, q5, h⟩ := of_bd h
    have hC6 := f_X12_atLeastNought (σ := σ30) hs3  q5 (X := X) (l := l)
    have hs7 := hC6.1.2.2.2.1 hs3
    refine ⟨0, v40, σ36, (Nat.le_trans (by decide) hD), hC6, ?_⟩
    exact ret_i h
set_option maxRecDepth 100000 in
theorem t_X12_counts_75 {X : Sx} {l : Launch} {D : Nat} {x1 : Int32} {x2 : Int32} {y0 : Int32} {σ : AH} {v : Int32} {σ' : AH} (hD : 5 ≤ D) (hs : Sh σ) (h : F_X12_counts_75 x1 x2 y0 σ = some (v, σ')) : W_X12_counts_75 X l D x1 x2 y0 σ (some (.int v)) σ' := by
  unfold F_X12_counts_75 at h
  unfold W_X12_counts_75
  refine ite_i (fun c1 => ?_) (fun c1 => ?_)
  · replace h := of_ifp h c1
    exact t_X12_counts_90 hD  hs  h
  · replace h := of_ifn h c1
    exact t_X12_counts_90 hD  hs  h
set_option maxRecDepth 100000 in
theorem t_X12_counts_0 {X : Sx} {l : Launch} {D : Nat} {x1 : Int32} {x2 : Int32} {x3 : Int32} {σ : AH} {v : Int32} {σ' : AH} (hD : 5 ≤ D) (hs : Sh σ) (h : F_X12_counts x1 x2 x3 σ = some (v, σ')) : W_X12_counts_0 X l D x1 x2 x3 σ (some (.int v)) σ' := by
  unfold F_X12_counts at h
  unfold W_X12_counts_0
  obtain ⟨v6, σ2, q1, h⟩ := of_bd h
  have hC2 := f_X12_in (σ := (sI σ 124 0 (0 : Int32))) hs  q1 (X := X) (l := l)
  have hs3 := hC2.1.2.2.2.1 hs
  refine ⟨0, v6, σ2, (Nat.le_trans (by decide) hD), hC2, ?_⟩
  refine ite_i (fun c4 => ?_) (fun c4 => ?_)
  · replace h := of_ifp h c4
    exact ret_i h
  · replace h := of_ifn h c4
    obtain ⟨v12, σ8, q5, h⟩ := of_bd h
    have hC6 := f_X12_isWeek (σ := σ2) hs3  q5 (X := X) (l := l)
    have hs7 := hC6.1.2.2.2.1 hs3
    refine ⟨1, v12, σ8, (Nat.le_trans (by decide) hD), hC6, ?_⟩
    refine ite_i (fun c8 => ?_) (fun c8 => ?_)
    · replace h := of_ifp h c8
      exact ret_i h
    · replace h := of_ifn h c8
      obtain ⟨v18, σ14, q9, h⟩ := of_bd h
      have hC10 := f_X12_isWeek (σ := σ8) hs7  q9 (X := X) (l := l)
      have hs11 := hC10.1.2.2.2.1 hs7
      refine ⟨1, v18, σ14, (Nat.le_trans (by decide) hD), hC10, ?_⟩
      refine ite_i (fun c12 => ?_) (fun c12 => ?_)
      · replace h := of_ifp h c12
        exact ret_i h
      · replace h := of_ifn h c12
        obtain ⟨σ20, q13, h⟩ := of_bv h
        have hC14 := f_X12_knowBy (σ := σ14) hs11  q13 (X := X) (l := l)
        have hs15 := hC14.1.2.2.2.1 hs11
        refine ⟨0, σ20, (Nat.le_trans (by decide) hD), hC14, ?_⟩
        obtain ⟨σ25, q16, h⟩ := of_bv h
        have hC17 := f_X12_setOnly (σ := σ20) hs15  q16 (X := X) (l := l)
        have hs18 := hC17.1.2.2.2.1 hs15
        refine ⟨0, σ25, (Nat.le_trans (by decide) hD), hC17, ?_⟩
        refine ite_i (fun c19 => ?_) (fun c19 => ?_)
        · replace h := of_ifp h c19
          refine ite_i (fun c20 => ?_) (fun c20 => ?_)
          · replace h := of_ifp h c20
            exact t_X12_counts_75 hD  hs18  h
          · replace h := of_ifn h c20
            refine ite_i (fun c21 => ?_) (fun c21 => ?_)
            · replace h := of_ifp h c21
              exact t_X12_counts_75 hD  hs18  h
            · replace h := of_ifn h c21
              exact t_X12_counts_75 hD  hs18  h
        · replace h := of_ifn h c19
          exact t_X12_counts_75 hD  hs18  h
theorem f_X12_counts {X : Sx} {l : Launch} {x1 : Int32} {x2 : Int32} {x3 : Int32} {σ : AH} {v : Int32} {σ' : AH} (hs : Sh σ) (h : F_X12_counts x1 x2 x3 σ = some (v, σ')) : Call X l m_X12_counts 5 [.ref 124, .int x1, .int x2, .int x3] σ (some (.int v)) σ' :=
  Call.ofE ok_X12_counts rfl (Nat.le_of_ble_eq_true rfl) (w_X12_counts_0 hs  (t_X12_counts_0 (Nat.le_refl _) hs  h))
end
