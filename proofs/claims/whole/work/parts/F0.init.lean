section
/-! THE START: what the two constructors leave -/
def E0 : AH := (fun _ => (0, 0), fun _ _ => 0, fun _ _ => 0, fun _ _ => none, 0, 0)
theorem lt_to {s S : AH} {f : AH → Option AH} {r : Option AH} (h : s = S) (k : f S = r) : lt s f = r := by rw [h]; exact k
theorem bv_to {x : Option AH} {q : AH} {f : AH → Option AH} {r : Option AH} (h : x = some q) (k : f q = r) : bv x f = r := by rw [h]; exact k
theorem bo_to {x : Option Nat} {q : Nat} {f : Nat → Option AH} {r : Option AH} (h : x = some q) (k : f q = r) : bo x f = r := by rw [h]; exact k
theorem u79 (n : Nat) : F_X1_init_79 (n + 1) = B_X1_init_79 (F_X1_init_79 n) := rfl
def awL (σ : AH) (k t n k1 s : Nat) : AH := (va_up (kd σ) k (t, n), va_up (gI σ) k (fun _ => 0), va_up (gL σ) k (fun _ => 0), va_up (gR σ) k (fun _ => none), k1, s)
theorem aw_L {σ : AH} {k t n k1 s : Nat} (h1 : nx σ = k) (h2 : k1 = k + 1) (h3 : sl σ + n = s) : aw σ t n = awL σ k t n k1 s := by rw [h2, ← h1, ← h3]; rfl
def Zs0 : AH := awL E0 0 11 (NO 11) 1 14
def Zs1 : AH := awL Zs0 1 9 (NO 9) 2 30
def Zs2 : AH := awL Zs1 2 103 24 3 54
def Zs3 : AH := sR Zs2 (nx Zs0) 0 (some (nx Zs1))
def Zs4 : AH := awL Zs3 3 8 (NO 8) 4 58
def Zs5 : AH := awL (sI (sI Zs4 (nx Zs3) 0 (4 : Int32)) (nx Zs3) 1 (120 : Int32)) 4 100 ((4 : Int32) * (imin (120 : Int32) (8 : Int32))).toNatClampNeg 5 90
def Zs6 : AH := sR Zs5 (nx Zs3) 2 (some (nx (sI (sI Zs4 (nx Zs3) 0 (4 : Int32)) (nx Zs3) 1 (120 : Int32))))
def Zs7 : AH := sR Zs6 (nx Zs0) 2 (some (nx Zs3))
def Zs8 : AH := awL Zs7 5 8 (NO 8) 6 94
def Zs9 : AH := awL (sI (sI Zs8 (nx Zs7) 0 (8 : Int32)) (nx Zs7) 1 (8 : Int32)) 6 100 ((8 : Int32) * (imin (8 : Int32) (8 : Int32))).toNatClampNeg 7 158
def Zs10 : AH := sR Zs9 (nx Zs7) 2 (some (nx (sI (sI Zs8 (nx Zs7) 0 (8 : Int32)) (nx Zs7) 1 (8 : Int32))))
def Zs11 : AH := sR Zs10 (nx Zs0) 3 (some (nx Zs7))
def Zs12 : AH := awL Zs11 7 8 (NO 8) 8 162
def Zs13 : AH := awL (sI (sI Zs12 (nx Zs11) 0 (4 : Int32)) (nx Zs11) 1 (60 : Int32)) 8 100 ((4 : Int32) * (imin (60 : Int32) (8 : Int32))).toNatClampNeg 9 194
def Zs14 : AH := sR Zs13 (nx Zs11) 2 (some (nx (sI (sI Zs12 (nx Zs11) 0 (4 : Int32)) (nx Zs11) 1 (60 : Int32))))
def Zs15 : AH := sR Zs14 (nx Zs0) 4 (some (nx Zs11))
def Zs16 : AH := awL Zs15 9 8 (NO 8) 10 198
def Zs17 : AH := awL (sI (sI Zs16 (nx Zs15) 0 (4 : Int32)) (nx Zs15) 1 (30 : Int32)) 10 100 ((4 : Int32) * (imin (30 : Int32) (8 : Int32))).toNatClampNeg 11 230
def Zs18 : AH := sR Zs17 (nx Zs15) 2 (some (nx (sI (sI Zs16 (nx Zs15) 0 (4 : Int32)) (nx Zs15) 1 (30 : Int32))))
def Zs19 : AH := sR Zs18 (nx Zs0) 5 (some (nx Zs15))
def Zs20 : AH := awL Zs19 11 8 (NO 8) 12 234
def Zs21 : AH := awL (sI (sI Zs20 (nx Zs19) 0 (3 : Int32)) (nx Zs19) 1 (60 : Int32)) 12 100 ((3 : Int32) * (imin (60 : Int32) (8 : Int32))).toNatClampNeg 13 258
def Zs22 : AH := sR Zs21 (nx Zs19) 2 (some (nx (sI (sI Zs20 (nx Zs19) 0 (3 : Int32)) (nx Zs19) 1 (60 : Int32))))
def Zs23 : AH := sR Zs22 (nx Zs0) 6 (some (nx Zs19))
def Zs24 : AH := awL Zs23 13 8 (NO 8) 14 262
def Zs25 : AH := awL (sI (sI Zs24 (nx Zs23) 0 (10 : Int32)) (nx Zs23) 1 (60 : Int32)) 14 100 ((10 : Int32) * (imin (60 : Int32) (8 : Int32))).toNatClampNeg 15 342
def Zs26 : AH := sR Zs25 (nx Zs23) 2 (some (nx (sI (sI Zs24 (nx Zs23) 0 (10 : Int32)) (nx Zs23) 1 (60 : Int32))))
def Zs27 : AH := sR Zs26 (nx Zs0) 7 (some (nx Zs23))
def Zs28 : AH := awL Zs27 15 8 (NO 8) 16 346
def Zs29 : AH := awL (sI (sI Zs28 (nx Zs27) 0 (4 : Int32)) (nx Zs27) 1 (40 : Int32)) 16 100 ((4 : Int32) * (imin (40 : Int32) (8 : Int32))).toNatClampNeg 17 378
def Zs30 : AH := sR Zs29 (nx Zs27) 2 (some (nx (sI (sI Zs28 (nx Zs27) 0 (4 : Int32)) (nx Zs27) 1 (40 : Int32))))
def Zs31 : AH := sR Zs30 (nx Zs0) 8 (some (nx Zs27))
def Zs32 : AH := awL Zs31 17 8 (NO 8) 18 382
def Zs33 : AH := awL (sI (sI Zs32 (nx Zs31) 0 (7 : Int32)) (nx Zs31) 1 (7830 : Int32)) 18 100 ((7 : Int32) * (imin (7830 : Int32) (8 : Int32))).toNatClampNeg 19 438
def Zs34 : AH := sR Zs33 (nx Zs31) 2 (some (nx (sI (sI Zs32 (nx Zs31) 0 (7 : Int32)) (nx Zs31) 1 (7830 : Int32))))
def Zs35 : AH := sR Zs34 (nx Zs0) 9 (some (nx Zs31))
def Zs36 : AH := awL Zs35 19 100 120 20 558
def Zs37 : AH := sR Zs36 (nx Zs0) 10 (some (nx Zs35))
def Zs38 : AH := awL Zs37 20 100 2400 21 2958
def Zs39 : AH := sR Zs38 (nx Zs0) 11 (some (nx Zs37))
def Zs40 : AH := sR Zs39 (nx E0) 0 (some (nx Zs0))
def Zs41 : AH := awL Zs40 21 104 3 22 2961
def Zs42 : AH := sR Zs41 (nx E0) 1 (some (nx Zs40))
def Zs43 : AH := awL Zs42 22 5 (NO 5) 23 2974
def Zs44 : AH := awL Zs43 23 100 400 24 3374
def Zs45 : AH := sR Zs44 (nx Zs42) 0 (some (nx Zs43))
def Zs46 : AH := awL Zs45 24 100 16 25 3390
def Zs47 : AH := sR Zs46 (nx Zs42) 3 (some (nx Zs45))
def Zs48 : AH := awL Zs47 25 100 16 26 3406
def Zs49 : AH := sR Zs48 (nx Zs42) 4 (some (nx Zs47))
def Zs50 : AH := awL Zs49 26 100 16 27 3422
def Zs51 : AH := sR Zs50 (nx Zs42) 5 (some (nx Zs49))
def Zs52 : AH := awL Zs51 27 100 400 28 3822
def Zs53 : AH := sR Zs52 (nx Zs42) 6 (some (nx Zs51))
def Zs54 : AH := sR Zs53 (nx E0) 2 (some (nx Zs42))
def Zs55 : AH := awL Zs54 28 3 (NO 3) 29 3829
def Zs56 : AH := awL Zs55 29 100 63 30 3892
def Zs57 : AH := sR Zs56 (nx Zs54) 1 (some (nx Zs55))
def Zs58 : AH := awL Zs57 30 100 384 31 4276
def Zs59 : AH := sR Zs58 (nx Zs54) 2 (some (nx Zs57))
def Zs60 : AH := awL Zs59 31 100 24 32 4300
def Zs61 : AH := sR Zs60 (nx Zs54) 3 (some (nx Zs59))
def Zs62 : AH := awL Zs61 32 100 7 33 4307
def Zs63 : AH := sR Zs62 (nx Zs54) 4 (some (nx Zs61))
def Zs64 : AH := awL Zs63 33 102 64 34 4371
def Zs65 : AH := sR Zs64 (nx Zs54) 5 (some (nx Zs63))
def Zs66 : AH := sR (sI Zs65 (nx Zs54) 6 (-1 : Int32)) (nx Zs54) 0 (some 1)
def Zs67 : AH := sA Zs66 29 (filln (gI Zs66 29) (kd Zs66 29).2 (-1 : Int32))
def Zs68 : AH := sR Zs67 (nx E0) 3 (some (nx Zs54))
def Zs69 : AH := awL Zs68 34 10 (NO 10) 35 4385
def Zs70 : AH := awL (sI (sI (sI Zs69 (nx Zs68) 2 (-1 : Int32)) (nx Zs68) 3 (-1 : Int32)) (nx Zs68) 4 (-1 : Int32)) 35 100 1300 36 5685
def Zs71 : AH := sR Zs70 (nx Zs68) 5 (some (nx (sI (sI (sI Zs69 (nx Zs68) 2 (-1 : Int32)) (nx Zs68) 3 (-1 : Int32)) (nx Zs68) 4 (-1 : Int32))))
def Zs72 : AH := awL Zs71 36 100 1560 37 7245
def Zs73 : AH := sR Zs72 (nx Zs68) 6 (some (nx Zs71))
def Zs74 : AH := awL Zs73 37 100 6 38 7251
def Zs75 : AH := sR Zs74 (nx Zs68) 7 (some (nx Zs73))
def Zs76 : AH := awL Zs75 38 100 30 39 7281
def Zs77 : AH := sR Zs76 (nx Zs68) 8 (some (nx Zs75))
def Zs78 : AH := awL Zs77 39 100 260 40 7541
def Zs79 : AH := sR Zs78 (nx Zs68) 9 (some (nx Zs77))
def Zs80 : AH := awL Zs79 40 100 60 41 7601
def Zs81 : AH := sR Zs80 (nx Zs68) 10 (some (nx Zs79))
def Zs82 : AH := awL Zs81 41 100 260 42 7861
def Zs83 : AH := sR Zs82 (nx Zs68) 11 (some (nx Zs81))
def Zs84 : AH := awL Zs83 42 100 4212 43 12073
def Zs85 : AH := sR Zs84 (nx Zs68) 12 (some (nx Zs83))
def Zs86 : AH := awL Zs85 43 100 702 44 12775
def Zs87 : AH := sR Zs86 (nx Zs68) 13 (some (nx Zs85))
def Zs88 : AH := sR Zs87 (nx Zs68) 0 (some 1)
def Zs89 : AH := sR Zs88 (nx Zs68) 1 (some 28)
def Zs90 : AH := sR Zs89 (nx E0) 4 (some (nx Zs68))
def Zs91 : AH := awL Zs90 44 6 (NO 6) 45 12780
def Zs92 : AH := awL Zs91 45 7 (NO 7) 46 12790
def Zs93 : AH := awL Zs92 46 100 5 47 12795
def Zs94 : AH := sR Zs93 (nx Zs91) 0 (some (nx Zs92))
def Zs95 : AH := awL Zs94 47 100 30 48 12825
def Zs96 : AH := sR Zs95 (nx Zs91) 1 (some (nx Zs94))
def Zs97 : AH := awL Zs96 48 100 18 49 12843
def Zs98 : AH := sR Zs97 (nx Zs91) 3 (some (nx Zs96))
def Zs99 : AH := awL Zs98 49 100 30 50 12873
def Zs100 : AH := sR Zs99 (nx Zs91) 4 (some (nx Zs98))
def Zs101 : AH := awL Zs100 50 100 30 51 12903
def Zs102 : AH := sR Zs101 (nx Zs91) 5 (some (nx Zs100))
def Zs103 : AH := awL Zs102 51 100 30 52 12933
def Zs104 : AH := sR Zs103 (nx Zs91) 6 (some (nx Zs102))
def Zs105 : AH := awL Zs104 52 100 90 53 13023
def Zs106 : AH := sR Zs105 (nx Zs91) 7 (some (nx Zs104))
def Zs107 : AH := awL Zs106 53 100 90 54 13113
def Zs108 : AH := sR Zs107 (nx Zs91) 8 (some (nx Zs106))
def Zs109 : AH := awL Zs108 54 100 90 55 13203
def Zs110 : AH := sR Zs109 (nx Zs91) 9 (some (nx Zs108))
def Zs111 : AH := sR Zs110 (nx Zs90) 0 (some (nx Zs91))
def Zs112 : AH := awL Zs111 55 100 1300 56 14503
def Zs113 : AH := sR Zs112 (nx Zs90) 1 (some (nx Zs111))
def Zs114 : AH := sI (sI (sI Zs113 (nx Zs90) 2 (-1 : Int32)) (nx Zs90) 3 (-1 : Int32)) (nx Zs90) 4 (-1 : Int32)
def Zs115 : AH := sR Zs114 (nx E0) 5 (some (nx Zs90))
def Zs116 : AH := awL Zs115 56 6 (NO 6) 57 14508
def Zs117 : AH := awL Zs116 57 7 (NO 7) 58 14518
def Zs118 : AH := awL Zs117 58 100 5 59 14523
def Zs119 : AH := sR Zs118 (nx Zs116) 0 (some (nx Zs117))
def Zs120 : AH := awL Zs119 59 100 30 60 14553
def Zs121 : AH := sR Zs120 (nx Zs116) 1 (some (nx Zs119))
def Zs122 : AH := awL Zs121 60 100 18 61 14571
def Zs123 : AH := sR Zs122 (nx Zs116) 3 (some (nx Zs121))
def Zs124 : AH := awL Zs123 61 100 30 62 14601
def Zs125 : AH := sR Zs124 (nx Zs116) 4 (some (nx Zs123))
def Zs126 : AH := awL Zs125 62 100 30 63 14631
def Zs127 : AH := sR Zs126 (nx Zs116) 5 (some (nx Zs125))
def Zs128 : AH := awL Zs127 63 100 30 64 14661
def Zs129 : AH := sR Zs128 (nx Zs116) 6 (some (nx Zs127))
def Zs130 : AH := awL Zs129 64 100 90 65 14751
def Zs131 : AH := sR Zs130 (nx Zs116) 7 (some (nx Zs129))
def Zs132 : AH := awL Zs131 65 100 90 66 14841
def Zs133 : AH := sR Zs132 (nx Zs116) 8 (some (nx Zs131))
def Zs134 : AH := awL Zs133 66 100 90 67 14931
def Zs135 : AH := sR Zs134 (nx Zs116) 9 (some (nx Zs133))
def Zs136 : AH := sR Zs135 (nx Zs115) 0 (some (nx Zs116))
def Zs137 : AH := awL Zs136 67 100 1300 68 16231
def Zs138 : AH := sR Zs137 (nx Zs115) 1 (some (nx Zs136))
def Zs139 : AH := sI (sI (sI Zs138 (nx Zs115) 2 (-1 : Int32)) (nx Zs115) 3 (-1 : Int32)) (nx Zs115) 4 (-1 : Int32)
def Zs140 : AH := sR Zs139 (nx E0) 6 (some (nx Zs115))
def Zs141 : AH := awL Zs140 68 1 (NO 1) 69 16245
def Zs142 : AH := awL Zs141 69 100 6 70 16251
def Zs143 : AH := sR Zs142 (nx Zs140) 2 (some (nx Zs141))
def Zs144 : AH := awL Zs143 70 7 (NO 7) 71 16261
def Zs145 : AH := awL Zs144 71 100 5 72 16266
def Zs146 : AH := sR Zs145 (nx Zs143) 0 (some (nx Zs144))
def Zs147 : AH := awL Zs146 72 100 30 73 16296
def Zs148 : AH := sR Zs147 (nx Zs143) 1 (some (nx Zs146))
def Zs149 : AH := awL Zs148 73 100 18 74 16314
def Zs150 : AH := sR Zs149 (nx Zs143) 3 (some (nx Zs148))
def Zs151 : AH := awL Zs150 74 100 30 75 16344
def Zs152 : AH := sR Zs151 (nx Zs143) 4 (some (nx Zs150))
def Zs153 : AH := awL Zs152 75 100 30 76 16374
def Zs154 : AH := sR Zs153 (nx Zs143) 5 (some (nx Zs152))
def Zs155 : AH := awL Zs154 76 100 30 77 16404
def Zs156 : AH := sR Zs155 (nx Zs143) 6 (some (nx Zs154))
def Zs157 : AH := awL Zs156 77 100 90 78 16494
def Zs158 : AH := sR Zs157 (nx Zs143) 7 (some (nx Zs156))
def Zs159 : AH := awL Zs158 78 100 90 79 16584
def Zs160 : AH := sR Zs159 (nx Zs143) 8 (some (nx Zs158))
def Zs161 : AH := awL Zs160 79 100 90 80 16674
def Zs162 : AH := sR Zs161 (nx Zs143) 9 (some (nx Zs160))
def Zs163 : AH := sR Zs162 (nx Zs140) 5 (some (nx Zs143))
def Zs164 : AH := awL (sI (sI Zs163 (nx Zs140) 6 (-1 : Int32)) (nx Zs140) 7 (-1 : Int32)) 80 105 3 81 16677
def Zs165 : AH := sR Zs164 (nx Zs140) 8 (some (nx (sI (sI Zs163 (nx Zs140) 6 (-1 : Int32)) (nx Zs140) 7 (-1 : Int32))))
def Zs166 : AH := awL Zs165 81 100 6 82 16683
def Zs167 : AH := sR Zs166 (nx Zs140) 9 (some (nx Zs165))
def Zs168 : AH := awL Zs167 82 100 6 83 16689
def Zs169 : AH := sR Zs168 (nx Zs140) 10 (some (nx Zs167))
def Zs170 : AH := sR (sI (sI Zs169 (nx Zs140) 12 (-1 : Int32)) (nx Zs140) 13 (-1 : Int32)) (nx Zs140) 0 (some 1)
def Zs171 : AH := sR Zs170 (nx Zs140) 1 (some 34)
def Zs172 : AH := awL Zs171 83 7 (NO 7) 84 16699
def Zs173 : AH := awL Zs172 84 100 5 85 16704
def Zs174 : AH := sR Zs173 (nx Zs171) 0 (some (nx Zs172))
def Zs175 : AH := awL Zs174 85 100 30 86 16734
def Zs176 : AH := sR Zs175 (nx Zs171) 1 (some (nx Zs174))
def Zs177 : AH := awL Zs176 86 100 18 87 16752
def Zs178 : AH := sR Zs177 (nx Zs171) 3 (some (nx Zs176))
def Zs179 : AH := awL Zs178 87 100 30 88 16782
def Zs180 : AH := sR Zs179 (nx Zs171) 4 (some (nx Zs178))
def Zs181 : AH := awL Zs180 88 100 30 89 16812
def Zs182 : AH := sR Zs181 (nx Zs171) 5 (some (nx Zs180))
def Zs183 : AH := awL Zs182 89 100 30 90 16842
def Zs184 : AH := sR Zs183 (nx Zs171) 6 (some (nx Zs182))
def Zs185 : AH := awL Zs184 90 100 90 91 16932
def Zs186 : AH := sR Zs185 (nx Zs171) 7 (some (nx Zs184))
def Zs187 : AH := awL Zs186 91 100 90 92 17022
def Zs188 : AH := sR Zs187 (nx Zs171) 8 (some (nx Zs186))
def Zs189 : AH := awL Zs188 92 100 90 93 17112
def Zs190 : AH := sR Zs189 (nx Zs171) 9 (some (nx Zs188))
def Zs191 : AH := sR Zs190 80 (0 : Int32).toNatClampNeg (some (nx Zs171))
def Zs192 : AH := awL Zs191 93 7 (NO 7) 94 17122
def Zs193 : AH := awL Zs192 94 100 5 95 17127
def Zs194 : AH := sR Zs193 (nx Zs191) 0 (some (nx Zs192))
def Zs195 : AH := awL Zs194 95 100 30 96 17157
def Zs196 : AH := sR Zs195 (nx Zs191) 1 (some (nx Zs194))
def Zs197 : AH := awL Zs196 96 100 18 97 17175
def Zs198 : AH := sR Zs197 (nx Zs191) 3 (some (nx Zs196))
def Zs199 : AH := awL Zs198 97 100 30 98 17205
def Zs200 : AH := sR Zs199 (nx Zs191) 4 (some (nx Zs198))
def Zs201 : AH := awL Zs200 98 100 30 99 17235
def Zs202 : AH := sR Zs201 (nx Zs191) 5 (some (nx Zs200))
def Zs203 : AH := awL Zs202 99 100 30 100 17265
def Zs204 : AH := sR Zs203 (nx Zs191) 6 (some (nx Zs202))
def Zs205 : AH := awL Zs204 100 100 90 101 17355
def Zs206 : AH := sR Zs205 (nx Zs191) 7 (some (nx Zs204))
def Zs207 : AH := awL Zs206 101 100 90 102 17445
def Zs208 : AH := sR Zs207 (nx Zs191) 8 (some (nx Zs206))
def Zs209 : AH := awL Zs208 102 100 90 103 17535
def Zs210 : AH := sR Zs209 (nx Zs191) 9 (some (nx Zs208))
def Zs211 : AH := sR Zs210 80 ((0 : Int32) + 1).toNatClampNeg (some (nx Zs191))
def Zs212 : AH := awL Zs211 103 7 (NO 7) 104 17545
def Zs213 : AH := awL Zs212 104 100 5 105 17550
def Zs214 : AH := sR Zs213 (nx Zs211) 0 (some (nx Zs212))
def Zs215 : AH := awL Zs214 105 100 30 106 17580
def Zs216 : AH := sR Zs215 (nx Zs211) 1 (some (nx Zs214))
def Zs217 : AH := awL Zs216 106 100 18 107 17598
def Zs218 : AH := sR Zs217 (nx Zs211) 3 (some (nx Zs216))
def Zs219 : AH := awL Zs218 107 100 30 108 17628
def Zs220 : AH := sR Zs219 (nx Zs211) 4 (some (nx Zs218))
def Zs221 : AH := awL Zs220 108 100 30 109 17658
def Zs222 : AH := sR Zs221 (nx Zs211) 5 (some (nx Zs220))
def Zs223 : AH := awL Zs222 109 100 30 110 17688
def Zs224 : AH := sR Zs223 (nx Zs211) 6 (some (nx Zs222))
def Zs225 : AH := awL Zs224 110 100 90 111 17778
def Zs226 : AH := sR Zs225 (nx Zs211) 7 (some (nx Zs224))
def Zs227 : AH := awL Zs226 111 100 90 112 17868
def Zs228 : AH := sR Zs227 (nx Zs211) 8 (some (nx Zs226))
def Zs229 : AH := awL Zs228 112 100 90 113 17958
def Zs230 : AH := sR Zs229 (nx Zs211) 9 (some (nx Zs228))
def Zs231 : AH := sR Zs230 80 (((0 : Int32) + 1) + 1).toNatClampNeg (some (nx Zs211))
def Zs232 : AH := sR Zs231 (nx E0) 7 (some (nx Zs140))
def Zs233 : AH := awL Zs232 113 4 (NO 4) 114 17967
def Zs234 : AH := awL Zs233 114 100 60 115 18027
def Zs235 : AH := sR Zs234 (nx Zs232) 2 (some (nx Zs233))
def Zs236 : AH := awL (sI (sI Zs235 (nx Zs232) 3 (-1 : Int32)) (nx Zs232) 4 (-1 : Int32)) 115 100 360 116 18387
def Zs237 : AH := sR Zs236 (nx Zs232) 5 (some (nx (sI (sI Zs235 (nx Zs232) 3 (-1 : Int32)) (nx Zs232) 4 (-1 : Int32))))
def Zs238 : AH := awL Zs237 116 100 6 117 18393
def Zs239 : AH := sR Zs238 (nx Zs232) 6 (some (nx Zs237))
def Zs240 : AH := awL Zs239 117 102 60 118 18453
def Zs241 : AH := sR Zs240 (nx Zs232) 7 (some (nx Zs239))
def Zs242 : AH := awL Zs241 118 100 60 119 18513
def Zs243 : AH := sR Zs242 (nx Zs232) 8 (some (nx Zs241))
def Zs244 : AH := sR Zs243 (nx Zs232) 0 (some 1)
def Zs245 : AH := sR Zs244 (nx Zs232) 1 (some 28)
def Zs246 : AH := sR Zs245 (nx E0) 8 (some (nx Zs232))
def Zs247 : AH := awL Zs246 119 2 (NO 2) 120 18520
def Zs248 : AH := awL Zs247 120 100 30 121 18550
def Zs249 : AH := sR Zs248 (nx Zs246) 3 (some (nx Zs247))
def Zs250 : AH := awL Zs249 121 100 30 122 18580
def Zs251 : AH := sR Zs250 (nx Zs246) 4 (some (nx Zs249))
def Zs252 : AH := awL Zs251 122 100 60 123 18640
def Zs253 : AH := sR Zs252 (nx Zs246) 5 (some (nx Zs251))
def Zs254 : AH := awL Zs253 123 100 60 124 18700
def Zs255 : AH := sR Zs254 (nx Zs246) 6 (some (nx Zs253))
def Zs256 : AH := sR Zs255 (nx Zs246) 0 (some 1)
def Zs257 : AH := sR Zs256 (nx Zs246) 1 (some 28)
def Zs258 : AH := sR Zs257 (nx Zs246) 2 (some 113)
def Zs259 : AH := sR Zs258 (nx E0) 9 (some (nx Zs246))
def Zs260 : AH := sI Zs259 (nx E0) 11 (-1 : Int32)
def Zs261 : AH := awL Zs260 124 12 (NO 12) 125 18769
def Zs262 : AH := awL Zs261 125 100 269832 126 288601
def Zs263 : AH := sR Zs262 (nx Zs260) 2 (some (nx Zs261))
def Zs264 : AH := awL Zs263 126 100 809496 127 1098097
def Zs265 : AH := sR Zs264 (nx Zs260) 3 (some (nx Zs263))
def Zs266 : AH := awL Zs265 127 101 3 128 1098100
def Zs267 : AH := sR Zs266 (nx Zs260) 4 (some (nx Zs265))
def Zs268 : AH := awL Zs267 128 100 400 129 1098500
def Zs269 : AH := sR Zs268 (nx Zs260) 5 (some (nx Zs267))
def Zs270 : AH := awL (sI Zs269 (nx Zs260) 11 (-1 : Int32)) 129 100 144 130 1098644
def Zs271 : AH := sR Zs270 (nx Zs260) 14 (some (nx (sI Zs269 (nx Zs260) 11 (-1 : Int32))))
def Zs272 : AH := awL Zs271 130 100 400 131 1099044
def Zs273 : AH := sR Zs272 (nx Zs260) 16 (some (nx Zs271))
def Zs274 : AH := awL Zs273 131 100 400 132 1099444
def Zs275 : AH := sR Zs274 (nx Zs260) 17 (some (nx Zs273))
def Zs276 : AH := awL Zs275 132 100 400 133 1099844
def Zs277 : AH := sR Zs276 (nx Zs260) 19 (some (nx Zs275))
def Zs278 : AH := awL Zs277 133 100 400 134 1100244
def Zs279 : AH := sR Zs278 (nx Zs260) 20 (some (nx Zs277))
def Zs280 : AH := awL (sI Zs279 (nx Zs260) 24 (-1 : Int32)) 134 101 24 135 1100268
def Zs281 : AH := sR Zs280 (nx Zs260) 25 (some (nx (sI Zs279 (nx Zs260) 24 (-1 : Int32))))
def Zs282 : AH := awL Zs281 135 101 384 136 1100652
def Zs283 : AH := sR Zs282 (nx Zs260) 26 (some (nx Zs281))
def Zs284 : AH := awL Zs283 136 100 8 137 1100660
def Zs285 : AH := sR Zs284 (nx Zs260) 27 (some (nx Zs283))
def Zs286 : AH := awL Zs285 137 102 400 138 1101060
def Zs287 : AH := sR Zs286 (nx Zs260) 28 (some (nx Zs285))
def Zs288 : AH := awL Zs287 138 100 84240 139 1185300
def Zs289 : AH := sR Zs288 (nx Zs260) 33 (some (nx Zs287))
def Zs290 : AH := awL Zs289 139 100 260 140 1185560
def Zs291 : AH := sR Zs290 (nx Zs260) 34 (some (nx Zs289))
def Zs292 : AH := awL Zs291 140 100 30 141 1185590
def Zs293 : AH := sR Zs292 (nx Zs260) 35 (some (nx Zs291))
def Zs294 : AH := awL Zs293 141 101 30 142 1185620
def Zs295 : AH := sR Zs294 (nx Zs260) 36 (some (nx Zs293))
def Zs296 : AH := awL Zs295 142 100 5 143 1185625
def Zs297 : AH := sR Zs296 (nx Zs260) 37 (some (nx Zs295))
def Zs298 : AH := awL Zs297 143 100 6 144 1185631
def Zs299 : AH := sR Zs298 (nx Zs260) 38 (some (nx Zs297))
def Zs300 : AH := awL Zs299 144 100 30 145 1185661
def Zs301 : AH := sR Zs300 (nx Zs260) 39 (some (nx Zs299))
def Zs302 : AH := awL Zs301 145 101 30 146 1185691
def Zs303 : AH := sR Zs302 (nx Zs260) 40 (some (nx Zs301))
def Zs304 : AH := awL Zs303 146 100 30 147 1185721
def Zs305 : AH := sR Zs304 (nx Zs260) 41 (some (nx Zs303))
def Zs306 : AH := awL Zs305 147 101 30 148 1185751
def Zs307 : AH := sR Zs306 (nx Zs260) 42 (some (nx Zs305))
def Zs308 : AH := awL Zs307 148 100 90 149 1185841
def Zs309 : AH := sR Zs308 (nx Zs260) 43 (some (nx Zs307))
def Zs310 : AH := awL Zs309 149 100 90 150 1185931
def Zs311 : AH := sR Zs310 (nx Zs260) 44 (some (nx Zs309))
def Zs312 : AH := awL Zs311 150 100 30 151 1185961
def Zs313 : AH := sR Zs312 (nx Zs260) 46 (some (nx Zs311))
def Zs314 : AH := awL Zs313 151 100 30 152 1185991
def Zs315 : AH := sR Zs314 (nx Zs260) 47 (some (nx Zs313))
def Zs316 : AH := awL Zs315 152 100 6 153 1185997
def Zs317 : AH := sR Zs316 (nx Zs260) 49 (some (nx Zs315))
def Zs318 : AH := awL Zs317 153 100 6 154 1186003
def Zs319 : AH := sR Zs318 (nx Zs260) 52 (some (nx Zs317))
def Zs320 : AH := awL Zs319 154 100 5 155 1186008
def Zs321 : AH := sR Zs320 (nx Zs260) 54 (some (nx Zs319))
def Zs322 : AH := awL Zs321 155 100 30 156 1186038
def Zs323 : AH := sR Zs322 (nx Zs260) 55 (some (nx Zs321))
def Zs324 : AH := awL Zs323 156 101 30 157 1186068
def Zs325 : AH := sR Zs324 (nx Zs260) 56 (some (nx Zs323))
def Zs326 : AH := awL Zs325 157 100 30 158 1186098
def Zs327 : AH := sR Zs326 (nx Zs260) 57 (some (nx Zs325))
def Zs328 : AH := awL Zs327 158 100 90 159 1186188
def Zs329 : AH := sR Zs328 (nx Zs260) 58 (some (nx Zs327))
def Zs330 : AH := awL Zs329 159 100 90 160 1186278
def Zs331 : AH := sR Zs330 (nx Zs260) 59 (some (nx Zs329))
def Zs332 : AH := awL Zs331 160 100 60 161 1186338
def Zs333 : AH := sR Zs332 (nx Zs260) 62 (some (nx Zs331))
def Zs334 : AH := awL Zs333 161 102 60 162 1186398
def Zs335 : AH := sR Zs334 (nx Zs260) 63 (some (nx Zs333))
def Zs336 : AH := awL Zs335 162 100 60 163 1186458
def Zs337 : AH := sR Zs336 (nx Zs260) 64 (some (nx Zs335))
def Zs338 : AH := awL Zs337 163 100 60 164 1186518
def Zs339 : AH := sR Zs338 (nx Zs260) 66 (some (nx Zs337))
def Zs340 : AH := awL Zs339 164 100 30 165 1186548
def Zs341 : AH := sR Zs340 (nx Zs260) 67 (some (nx Zs339))
def Zs342 : AH := awL Zs341 165 100 30 166 1186578
def Zs343 : AH := sR Zs342 (nx Zs260) 68 (some (nx Zs341))
theorem ini_0 : F_X8_init (nx Zs3) (4 : Int32) (120 : Int32) Zs4 = some Zs6 := by
  unfold F_X8_init
  refine (if_pos (by decide +kernel)).trans ?_
  refine (if_pos (by decide +kernel)).trans ?_
  refine (if_pos (by decide +kernel)).trans ?_
  refine (if_pos (by decide +kernel)).trans ?_
  refine (if_pos (by decide +kernel)).trans ?_
  refine (if_pos (by decide +kernel)).trans ?_
  refine lt_to (S := Zs5) (aw_L (by decide +kernel) rfl (by decide +kernel)) ?_
  refine (if_pos (by decide +kernel)).trans ?_
  refine (if_pos (by decide +kernel)).trans ?_
  refine lt_to (S := Zs6) rfl ?_
  rfl
theorem ini_1 : F_X8_init (nx Zs7) (8 : Int32) (8 : Int32) Zs8 = some Zs10 := by
  unfold F_X8_init
  refine (if_pos (by decide +kernel)).trans ?_
  refine (if_pos (by decide +kernel)).trans ?_
  refine (if_pos (by decide +kernel)).trans ?_
  refine (if_pos (by decide +kernel)).trans ?_
  refine (if_pos (by decide +kernel)).trans ?_
  refine (if_pos (by decide +kernel)).trans ?_
  refine lt_to (S := Zs9) (aw_L (by decide +kernel) rfl (by decide +kernel)) ?_
  refine (if_pos (by decide +kernel)).trans ?_
  refine (if_pos (by decide +kernel)).trans ?_
  refine lt_to (S := Zs10) rfl ?_
  rfl
theorem ini_2 : F_X8_init (nx Zs11) (4 : Int32) (60 : Int32) Zs12 = some Zs14 := by
  unfold F_X8_init
  refine (if_pos (by decide +kernel)).trans ?_
  refine (if_pos (by decide +kernel)).trans ?_
  refine (if_pos (by decide +kernel)).trans ?_
  refine (if_pos (by decide +kernel)).trans ?_
  refine (if_pos (by decide +kernel)).trans ?_
  refine (if_pos (by decide +kernel)).trans ?_
  refine lt_to (S := Zs13) (aw_L (by decide +kernel) rfl (by decide +kernel)) ?_
  refine (if_pos (by decide +kernel)).trans ?_
  refine (if_pos (by decide +kernel)).trans ?_
  refine lt_to (S := Zs14) rfl ?_
  rfl
theorem ini_3 : F_X8_init (nx Zs15) (4 : Int32) (30 : Int32) Zs16 = some Zs18 := by
  unfold F_X8_init
  refine (if_pos (by decide +kernel)).trans ?_
  refine (if_pos (by decide +kernel)).trans ?_
  refine (if_pos (by decide +kernel)).trans ?_
  refine (if_pos (by decide +kernel)).trans ?_
  refine (if_pos (by decide +kernel)).trans ?_
  refine (if_pos (by decide +kernel)).trans ?_
  refine lt_to (S := Zs17) (aw_L (by decide +kernel) rfl (by decide +kernel)) ?_
  refine (if_pos (by decide +kernel)).trans ?_
  refine (if_pos (by decide +kernel)).trans ?_
  refine lt_to (S := Zs18) rfl ?_
  rfl
theorem ini_4 : F_X8_init (nx Zs19) (3 : Int32) (60 : Int32) Zs20 = some Zs22 := by
  unfold F_X8_init
  refine (if_pos (by decide +kernel)).trans ?_
  refine (if_pos (by decide +kernel)).trans ?_
  refine (if_pos (by decide +kernel)).trans ?_
  refine (if_pos (by decide +kernel)).trans ?_
  refine (if_pos (by decide +kernel)).trans ?_
  refine (if_pos (by decide +kernel)).trans ?_
  refine lt_to (S := Zs21) (aw_L (by decide +kernel) rfl (by decide +kernel)) ?_
  refine (if_pos (by decide +kernel)).trans ?_
  refine (if_pos (by decide +kernel)).trans ?_
  refine lt_to (S := Zs22) rfl ?_
  rfl
theorem ini_5 : F_X8_init (nx Zs23) (10 : Int32) (60 : Int32) Zs24 = some Zs26 := by
  unfold F_X8_init
  refine (if_pos (by decide +kernel)).trans ?_
  refine (if_pos (by decide +kernel)).trans ?_
  refine (if_pos (by decide +kernel)).trans ?_
  refine (if_pos (by decide +kernel)).trans ?_
  refine (if_pos (by decide +kernel)).trans ?_
  refine (if_pos (by decide +kernel)).trans ?_
  refine lt_to (S := Zs25) (aw_L (by decide +kernel) rfl (by decide +kernel)) ?_
  refine (if_pos (by decide +kernel)).trans ?_
  refine (if_pos (by decide +kernel)).trans ?_
  refine lt_to (S := Zs26) rfl ?_
  rfl
theorem ini_6 : F_X8_init (nx Zs27) (4 : Int32) (40 : Int32) Zs28 = some Zs30 := by
  unfold F_X8_init
  refine (if_pos (by decide +kernel)).trans ?_
  refine (if_pos (by decide +kernel)).trans ?_
  refine (if_pos (by decide +kernel)).trans ?_
  refine (if_pos (by decide +kernel)).trans ?_
  refine (if_pos (by decide +kernel)).trans ?_
  refine (if_pos (by decide +kernel)).trans ?_
  refine lt_to (S := Zs29) (aw_L (by decide +kernel) rfl (by decide +kernel)) ?_
  refine (if_pos (by decide +kernel)).trans ?_
  refine (if_pos (by decide +kernel)).trans ?_
  refine lt_to (S := Zs30) rfl ?_
  rfl
theorem ini_7 : F_X8_init (nx Zs31) (7 : Int32) (7830 : Int32) Zs32 = some Zs34 := by
  unfold F_X8_init
  refine (if_pos (by decide +kernel)).trans ?_
  refine (if_pos (by decide +kernel)).trans ?_
  refine (if_pos (by decide +kernel)).trans ?_
  refine (if_pos (by decide +kernel)).trans ?_
  refine (if_pos (by decide +kernel)).trans ?_
  refine (if_pos (by decide +kernel)).trans ?_
  refine lt_to (S := Zs33) (aw_L (by decide +kernel) rfl (by decide +kernel)) ?_
  refine (if_pos (by decide +kernel)).trans ?_
  refine (if_pos (by decide +kernel)).trans ?_
  refine lt_to (S := Zs34) rfl ?_
  rfl
theorem ini_8 : F_X9_init (nx Zs0) Zs1 = some Zs39 := by
  unfold F_X9_init
  refine (if_pos (by decide +kernel)).trans ?_
  refine (if_pos (by decide +kernel)).trans ?_
  refine lt_to (S := Zs2) (aw_L (by decide +kernel) rfl (by decide +kernel)) ?_
  refine (if_pos (by decide +kernel)).trans ?_
  refine (if_pos (by decide +kernel)).trans ?_
  refine lt_to (S := Zs3) rfl ?_
  refine lt_to (S := Zs4) (aw_L (by decide +kernel) rfl (by decide +kernel)) ?_
  refine bv_to ini_0 ?_
  refine (if_pos (by decide +kernel)).trans ?_
  refine (if_pos (by decide +kernel)).trans ?_
  refine lt_to (S := Zs7) rfl ?_
  refine lt_to (S := Zs8) (aw_L (by decide +kernel) rfl (by decide +kernel)) ?_
  refine bv_to ini_1 ?_
  refine (if_pos (by decide +kernel)).trans ?_
  refine (if_pos (by decide +kernel)).trans ?_
  refine lt_to (S := Zs11) rfl ?_
  refine lt_to (S := Zs12) (aw_L (by decide +kernel) rfl (by decide +kernel)) ?_
  refine bv_to ini_2 ?_
  refine (if_pos (by decide +kernel)).trans ?_
  refine (if_pos (by decide +kernel)).trans ?_
  refine lt_to (S := Zs15) rfl ?_
  refine lt_to (S := Zs16) (aw_L (by decide +kernel) rfl (by decide +kernel)) ?_
  refine bv_to ini_3 ?_
  refine (if_pos (by decide +kernel)).trans ?_
  refine (if_pos (by decide +kernel)).trans ?_
  refine lt_to (S := Zs19) rfl ?_
  refine lt_to (S := Zs20) (aw_L (by decide +kernel) rfl (by decide +kernel)) ?_
  refine bv_to ini_4 ?_
  refine (if_pos (by decide +kernel)).trans ?_
  refine (if_pos (by decide +kernel)).trans ?_
  refine lt_to (S := Zs23) rfl ?_
  refine lt_to (S := Zs24) (aw_L (by decide +kernel) rfl (by decide +kernel)) ?_
  refine bv_to ini_5 ?_
  refine (if_pos (by decide +kernel)).trans ?_
  refine (if_pos (by decide +kernel)).trans ?_
  refine lt_to (S := Zs27) rfl ?_
  refine lt_to (S := Zs28) (aw_L (by decide +kernel) rfl (by decide +kernel)) ?_
  refine bv_to ini_6 ?_
  refine (if_pos (by decide +kernel)).trans ?_
  refine (if_pos (by decide +kernel)).trans ?_
  refine lt_to (S := Zs31) rfl ?_
  refine lt_to (S := Zs32) (aw_L (by decide +kernel) rfl (by decide +kernel)) ?_
  refine bv_to ini_7 ?_
  refine (if_pos (by decide +kernel)).trans ?_
  refine (if_pos (by decide +kernel)).trans ?_
  refine lt_to (S := Zs35) rfl ?_
  refine lt_to (S := Zs36) (aw_L (by decide +kernel) rfl (by decide +kernel)) ?_
  refine (if_pos (by decide +kernel)).trans ?_
  refine (if_pos (by decide +kernel)).trans ?_
  refine lt_to (S := Zs37) rfl ?_
  refine lt_to (S := Zs38) (aw_L (by decide +kernel) rfl (by decide +kernel)) ?_
  refine (if_pos (by decide +kernel)).trans ?_
  refine (if_pos (by decide +kernel)).trans ?_
  refine lt_to (S := Zs39) rfl ?_
  rfl
theorem ini_9 : F_X5_init (nx Zs42) Zs43 = some Zs53 := by
  unfold F_X5_init
  refine (if_pos (by decide +kernel)).trans ?_
  refine (if_pos (by decide +kernel)).trans ?_
  refine lt_to (S := Zs44) (aw_L (by decide +kernel) rfl (by decide +kernel)) ?_
  refine (if_pos (by decide +kernel)).trans ?_
  refine (if_pos (by decide +kernel)).trans ?_
  refine lt_to (S := Zs45) rfl ?_
  refine lt_to (S := Zs46) (aw_L (by decide +kernel) rfl (by decide +kernel)) ?_
  refine (if_pos (by decide +kernel)).trans ?_
  refine (if_pos (by decide +kernel)).trans ?_
  refine lt_to (S := Zs47) rfl ?_
  refine lt_to (S := Zs48) (aw_L (by decide +kernel) rfl (by decide +kernel)) ?_
  refine (if_pos (by decide +kernel)).trans ?_
  refine (if_pos (by decide +kernel)).trans ?_
  refine lt_to (S := Zs49) rfl ?_
  refine lt_to (S := Zs50) (aw_L (by decide +kernel) rfl (by decide +kernel)) ?_
  refine (if_pos (by decide +kernel)).trans ?_
  refine (if_pos (by decide +kernel)).trans ?_
  refine lt_to (S := Zs51) rfl ?_
  refine lt_to (S := Zs52) (aw_L (by decide +kernel) rfl (by decide +kernel)) ?_
  refine (if_pos (by decide +kernel)).trans ?_
  refine (if_pos (by decide +kernel)).trans ?_
  refine lt_to (S := Zs53) rfl ?_
  rfl
theorem ini_10 : F_X3_init (nx Zs54) 1 Zs55 = some Zs67 := by
  unfold F_X3_init
  refine (if_pos (by decide +kernel)).trans ?_
  refine (if_pos (by decide +kernel)).trans ?_
  refine (if_pos (by decide +kernel)).trans ?_
  refine (if_pos (by decide +kernel)).trans ?_
  refine lt_to (S := Zs56) (aw_L (by decide +kernel) rfl (by decide +kernel)) ?_
  refine (if_pos (by decide +kernel)).trans ?_
  refine (if_pos (by decide +kernel)).trans ?_
  refine lt_to (S := Zs57) rfl ?_
  refine lt_to (S := Zs58) (aw_L (by decide +kernel) rfl (by decide +kernel)) ?_
  refine (if_pos (by decide +kernel)).trans ?_
  refine (if_pos (by decide +kernel)).trans ?_
  refine lt_to (S := Zs59) rfl ?_
  refine lt_to (S := Zs60) (aw_L (by decide +kernel) rfl (by decide +kernel)) ?_
  refine (if_pos (by decide +kernel)).trans ?_
  refine (if_pos (by decide +kernel)).trans ?_
  refine lt_to (S := Zs61) rfl ?_
  refine lt_to (S := Zs62) (aw_L (by decide +kernel) rfl (by decide +kernel)) ?_
  refine (if_pos (by decide +kernel)).trans ?_
  refine (if_pos (by decide +kernel)).trans ?_
  refine lt_to (S := Zs63) rfl ?_
  refine lt_to (S := Zs64) (aw_L (by decide +kernel) rfl (by decide +kernel)) ?_
  refine (if_pos (by decide +kernel)).trans ?_
  refine (if_pos (by decide +kernel)).trans ?_
  refine lt_to (S := Zs65) rfl ?_
  refine (if_pos (by decide +kernel)).trans ?_
  refine (if_pos (by decide +kernel)).trans ?_
  refine (if_pos (by decide +kernel)).trans ?_
  refine lt_to (S := Zs66) rfl ?_
  refine bo_to (q := 29) (by decide +kernel) ?_
  refine (if_pos (by decide +kernel)).trans ?_
  refine (if_pos (by decide +kernel)).trans ?_
  refine (if_pos (by decide +kernel)).trans ?_
  refine lt_to (S := Zs67) rfl ?_
  rfl
theorem ini_11 : F_X10_init (nx Zs68) 1 28 Zs69 = some Zs89 := by
  unfold F_X10_init
  refine (if_pos (by decide +kernel)).trans ?_
  refine (if_pos (by decide +kernel)).trans ?_
  refine (if_pos (by decide +kernel)).trans ?_
  refine (if_pos (by decide +kernel)).trans ?_
  refine (if_pos (by decide +kernel)).trans ?_
  refine (if_pos (by decide +kernel)).trans ?_
  refine (if_pos (by decide +kernel)).trans ?_
  refine lt_to (S := Zs70) (aw_L (by decide +kernel) rfl (by decide +kernel)) ?_
  refine (if_pos (by decide +kernel)).trans ?_
  refine (if_pos (by decide +kernel)).trans ?_
  refine lt_to (S := Zs71) rfl ?_
  refine lt_to (S := Zs72) (aw_L (by decide +kernel) rfl (by decide +kernel)) ?_
  refine (if_pos (by decide +kernel)).trans ?_
  refine (if_pos (by decide +kernel)).trans ?_
  refine lt_to (S := Zs73) rfl ?_
  refine lt_to (S := Zs74) (aw_L (by decide +kernel) rfl (by decide +kernel)) ?_
  refine (if_pos (by decide +kernel)).trans ?_
  refine (if_pos (by decide +kernel)).trans ?_
  refine lt_to (S := Zs75) rfl ?_
  refine lt_to (S := Zs76) (aw_L (by decide +kernel) rfl (by decide +kernel)) ?_
  refine (if_pos (by decide +kernel)).trans ?_
  refine (if_pos (by decide +kernel)).trans ?_
  refine lt_to (S := Zs77) rfl ?_
  refine lt_to (S := Zs78) (aw_L (by decide +kernel) rfl (by decide +kernel)) ?_
  refine (if_pos (by decide +kernel)).trans ?_
  refine (if_pos (by decide +kernel)).trans ?_
  refine lt_to (S := Zs79) rfl ?_
  refine lt_to (S := Zs80) (aw_L (by decide +kernel) rfl (by decide +kernel)) ?_
  refine (if_pos (by decide +kernel)).trans ?_
  refine (if_pos (by decide +kernel)).trans ?_
  refine lt_to (S := Zs81) rfl ?_
  refine lt_to (S := Zs82) (aw_L (by decide +kernel) rfl (by decide +kernel)) ?_
  refine (if_pos (by decide +kernel)).trans ?_
  refine (if_pos (by decide +kernel)).trans ?_
  refine lt_to (S := Zs83) rfl ?_
  refine lt_to (S := Zs84) (aw_L (by decide +kernel) rfl (by decide +kernel)) ?_
  refine (if_pos (by decide +kernel)).trans ?_
  refine (if_pos (by decide +kernel)).trans ?_
  refine lt_to (S := Zs85) rfl ?_
  refine lt_to (S := Zs86) (aw_L (by decide +kernel) rfl (by decide +kernel)) ?_
  refine (if_pos (by decide +kernel)).trans ?_
  refine (if_pos (by decide +kernel)).trans ?_
  refine lt_to (S := Zs87) rfl ?_
  refine (if_pos (by decide +kernel)).trans ?_
  refine (if_pos (by decide +kernel)).trans ?_
  refine lt_to (S := Zs88) rfl ?_
  refine (if_pos (by decide +kernel)).trans ?_
  refine (if_pos (by decide +kernel)).trans ?_
  refine lt_to (S := Zs89) rfl ?_
  rfl
theorem ini_12 : F_X7_init (nx Zs91) Zs92 = some Zs110 := by
  unfold F_X7_init
  refine (if_pos (by decide +kernel)).trans ?_
  refine (if_pos (by decide +kernel)).trans ?_
  refine lt_to (S := Zs93) (aw_L (by decide +kernel) rfl (by decide +kernel)) ?_
  refine (if_pos (by decide +kernel)).trans ?_
  refine (if_pos (by decide +kernel)).trans ?_
  refine lt_to (S := Zs94) rfl ?_
  refine lt_to (S := Zs95) (aw_L (by decide +kernel) rfl (by decide +kernel)) ?_
  refine (if_pos (by decide +kernel)).trans ?_
  refine (if_pos (by decide +kernel)).trans ?_
  refine lt_to (S := Zs96) rfl ?_
  refine lt_to (S := Zs97) (aw_L (by decide +kernel) rfl (by decide +kernel)) ?_
  refine (if_pos (by decide +kernel)).trans ?_
  refine (if_pos (by decide +kernel)).trans ?_
  refine lt_to (S := Zs98) rfl ?_
  refine lt_to (S := Zs99) (aw_L (by decide +kernel) rfl (by decide +kernel)) ?_
  refine (if_pos (by decide +kernel)).trans ?_
  refine (if_pos (by decide +kernel)).trans ?_
  refine lt_to (S := Zs100) rfl ?_
  refine lt_to (S := Zs101) (aw_L (by decide +kernel) rfl (by decide +kernel)) ?_
  refine (if_pos (by decide +kernel)).trans ?_
  refine (if_pos (by decide +kernel)).trans ?_
  refine lt_to (S := Zs102) rfl ?_
  refine lt_to (S := Zs103) (aw_L (by decide +kernel) rfl (by decide +kernel)) ?_
  refine (if_pos (by decide +kernel)).trans ?_
  refine (if_pos (by decide +kernel)).trans ?_
  refine lt_to (S := Zs104) rfl ?_
  refine lt_to (S := Zs105) (aw_L (by decide +kernel) rfl (by decide +kernel)) ?_
  refine (if_pos (by decide +kernel)).trans ?_
  refine (if_pos (by decide +kernel)).trans ?_
  refine lt_to (S := Zs106) rfl ?_
  refine lt_to (S := Zs107) (aw_L (by decide +kernel) rfl (by decide +kernel)) ?_
  refine (if_pos (by decide +kernel)).trans ?_
  refine (if_pos (by decide +kernel)).trans ?_
  refine lt_to (S := Zs108) rfl ?_
  refine lt_to (S := Zs109) (aw_L (by decide +kernel) rfl (by decide +kernel)) ?_
  refine (if_pos (by decide +kernel)).trans ?_
  refine (if_pos (by decide +kernel)).trans ?_
  refine lt_to (S := Zs110) rfl ?_
  rfl
theorem ini_13 : F_X6_init (nx Zs90) Zs91 = some Zs114 := by
  unfold F_X6_init
  refine (if_pos (by decide +kernel)).trans ?_
  refine (if_pos (by decide +kernel)).trans ?_
  refine lt_to (S := Zs92) (aw_L (by decide +kernel) rfl (by decide +kernel)) ?_
  refine bv_to ini_12 ?_
  refine (if_pos (by decide +kernel)).trans ?_
  refine (if_pos (by decide +kernel)).trans ?_
  refine lt_to (S := Zs111) rfl ?_
  refine lt_to (S := Zs112) (aw_L (by decide +kernel) rfl (by decide +kernel)) ?_
  refine (if_pos (by decide +kernel)).trans ?_
  refine (if_pos (by decide +kernel)).trans ?_
  refine lt_to (S := Zs113) rfl ?_
  refine (if_pos (by decide +kernel)).trans ?_
  refine (if_pos (by decide +kernel)).trans ?_
  refine (if_pos (by decide +kernel)).trans ?_
  rfl
theorem ini_14 : F_X7_init (nx Zs116) Zs117 = some Zs135 := by
  unfold F_X7_init
  refine (if_pos (by decide +kernel)).trans ?_
  refine (if_pos (by decide +kernel)).trans ?_
  refine lt_to (S := Zs118) (aw_L (by decide +kernel) rfl (by decide +kernel)) ?_
  refine (if_pos (by decide +kernel)).trans ?_
  refine (if_pos (by decide +kernel)).trans ?_
  refine lt_to (S := Zs119) rfl ?_
  refine lt_to (S := Zs120) (aw_L (by decide +kernel) rfl (by decide +kernel)) ?_
  refine (if_pos (by decide +kernel)).trans ?_
  refine (if_pos (by decide +kernel)).trans ?_
  refine lt_to (S := Zs121) rfl ?_
  refine lt_to (S := Zs122) (aw_L (by decide +kernel) rfl (by decide +kernel)) ?_
  refine (if_pos (by decide +kernel)).trans ?_
  refine (if_pos (by decide +kernel)).trans ?_
  refine lt_to (S := Zs123) rfl ?_
  refine lt_to (S := Zs124) (aw_L (by decide +kernel) rfl (by decide +kernel)) ?_
  refine (if_pos (by decide +kernel)).trans ?_
  refine (if_pos (by decide +kernel)).trans ?_
  refine lt_to (S := Zs125) rfl ?_
  refine lt_to (S := Zs126) (aw_L (by decide +kernel) rfl (by decide +kernel)) ?_
  refine (if_pos (by decide +kernel)).trans ?_
  refine (if_pos (by decide +kernel)).trans ?_
  refine lt_to (S := Zs127) rfl ?_
  refine lt_to (S := Zs128) (aw_L (by decide +kernel) rfl (by decide +kernel)) ?_
  refine (if_pos (by decide +kernel)).trans ?_
  refine (if_pos (by decide +kernel)).trans ?_
  refine lt_to (S := Zs129) rfl ?_
  refine lt_to (S := Zs130) (aw_L (by decide +kernel) rfl (by decide +kernel)) ?_
  refine (if_pos (by decide +kernel)).trans ?_
  refine (if_pos (by decide +kernel)).trans ?_
  refine lt_to (S := Zs131) rfl ?_
  refine lt_to (S := Zs132) (aw_L (by decide +kernel) rfl (by decide +kernel)) ?_
  refine (if_pos (by decide +kernel)).trans ?_
  refine (if_pos (by decide +kernel)).trans ?_
  refine lt_to (S := Zs133) rfl ?_
  refine lt_to (S := Zs134) (aw_L (by decide +kernel) rfl (by decide +kernel)) ?_
  refine (if_pos (by decide +kernel)).trans ?_
  refine (if_pos (by decide +kernel)).trans ?_
  refine lt_to (S := Zs135) rfl ?_
  rfl
theorem ini_15 : F_X6_init (nx Zs115) Zs116 = some Zs139 := by
  unfold F_X6_init
  refine (if_pos (by decide +kernel)).trans ?_
  refine (if_pos (by decide +kernel)).trans ?_
  refine lt_to (S := Zs117) (aw_L (by decide +kernel) rfl (by decide +kernel)) ?_
  refine bv_to ini_14 ?_
  refine (if_pos (by decide +kernel)).trans ?_
  refine (if_pos (by decide +kernel)).trans ?_
  refine lt_to (S := Zs136) rfl ?_
  refine lt_to (S := Zs137) (aw_L (by decide +kernel) rfl (by decide +kernel)) ?_
  refine (if_pos (by decide +kernel)).trans ?_
  refine (if_pos (by decide +kernel)).trans ?_
  refine lt_to (S := Zs138) rfl ?_
  refine (if_pos (by decide +kernel)).trans ?_
  refine (if_pos (by decide +kernel)).trans ?_
  refine (if_pos (by decide +kernel)).trans ?_
  rfl
theorem ini_16 : F_X7_init (nx Zs143) Zs144 = some Zs162 := by
  unfold F_X7_init
  refine (if_pos (by decide +kernel)).trans ?_
  refine (if_pos (by decide +kernel)).trans ?_
  refine lt_to (S := Zs145) (aw_L (by decide +kernel) rfl (by decide +kernel)) ?_
  refine (if_pos (by decide +kernel)).trans ?_
  refine (if_pos (by decide +kernel)).trans ?_
  refine lt_to (S := Zs146) rfl ?_
  refine lt_to (S := Zs147) (aw_L (by decide +kernel) rfl (by decide +kernel)) ?_
  refine (if_pos (by decide +kernel)).trans ?_
  refine (if_pos (by decide +kernel)).trans ?_
  refine lt_to (S := Zs148) rfl ?_
  refine lt_to (S := Zs149) (aw_L (by decide +kernel) rfl (by decide +kernel)) ?_
  refine (if_pos (by decide +kernel)).trans ?_
  refine (if_pos (by decide +kernel)).trans ?_
  refine lt_to (S := Zs150) rfl ?_
  refine lt_to (S := Zs151) (aw_L (by decide +kernel) rfl (by decide +kernel)) ?_
  refine (if_pos (by decide +kernel)).trans ?_
  refine (if_pos (by decide +kernel)).trans ?_
  refine lt_to (S := Zs152) rfl ?_
  refine lt_to (S := Zs153) (aw_L (by decide +kernel) rfl (by decide +kernel)) ?_
  refine (if_pos (by decide +kernel)).trans ?_
  refine (if_pos (by decide +kernel)).trans ?_
  refine lt_to (S := Zs154) rfl ?_
  refine lt_to (S := Zs155) (aw_L (by decide +kernel) rfl (by decide +kernel)) ?_
  refine (if_pos (by decide +kernel)).trans ?_
  refine (if_pos (by decide +kernel)).trans ?_
  refine lt_to (S := Zs156) rfl ?_
  refine lt_to (S := Zs157) (aw_L (by decide +kernel) rfl (by decide +kernel)) ?_
  refine (if_pos (by decide +kernel)).trans ?_
  refine (if_pos (by decide +kernel)).trans ?_
  refine lt_to (S := Zs158) rfl ?_
  refine lt_to (S := Zs159) (aw_L (by decide +kernel) rfl (by decide +kernel)) ?_
  refine (if_pos (by decide +kernel)).trans ?_
  refine (if_pos (by decide +kernel)).trans ?_
  refine lt_to (S := Zs160) rfl ?_
  refine lt_to (S := Zs161) (aw_L (by decide +kernel) rfl (by decide +kernel)) ?_
  refine (if_pos (by decide +kernel)).trans ?_
  refine (if_pos (by decide +kernel)).trans ?_
  refine lt_to (S := Zs162) rfl ?_
  rfl
theorem ini_17 : F_X7_init (nx Zs171) Zs172 = some Zs190 := by
  unfold F_X7_init
  refine (if_pos (by decide +kernel)).trans ?_
  refine (if_pos (by decide +kernel)).trans ?_
  refine lt_to (S := Zs173) (aw_L (by decide +kernel) rfl (by decide +kernel)) ?_
  refine (if_pos (by decide +kernel)).trans ?_
  refine (if_pos (by decide +kernel)).trans ?_
  refine lt_to (S := Zs174) rfl ?_
  refine lt_to (S := Zs175) (aw_L (by decide +kernel) rfl (by decide +kernel)) ?_
  refine (if_pos (by decide +kernel)).trans ?_
  refine (if_pos (by decide +kernel)).trans ?_
  refine lt_to (S := Zs176) rfl ?_
  refine lt_to (S := Zs177) (aw_L (by decide +kernel) rfl (by decide +kernel)) ?_
  refine (if_pos (by decide +kernel)).trans ?_
  refine (if_pos (by decide +kernel)).trans ?_
  refine lt_to (S := Zs178) rfl ?_
  refine lt_to (S := Zs179) (aw_L (by decide +kernel) rfl (by decide +kernel)) ?_
  refine (if_pos (by decide +kernel)).trans ?_
  refine (if_pos (by decide +kernel)).trans ?_
  refine lt_to (S := Zs180) rfl ?_
  refine lt_to (S := Zs181) (aw_L (by decide +kernel) rfl (by decide +kernel)) ?_
  refine (if_pos (by decide +kernel)).trans ?_
  refine (if_pos (by decide +kernel)).trans ?_
  refine lt_to (S := Zs182) rfl ?_
  refine lt_to (S := Zs183) (aw_L (by decide +kernel) rfl (by decide +kernel)) ?_
  refine (if_pos (by decide +kernel)).trans ?_
  refine (if_pos (by decide +kernel)).trans ?_
  refine lt_to (S := Zs184) rfl ?_
  refine lt_to (S := Zs185) (aw_L (by decide +kernel) rfl (by decide +kernel)) ?_
  refine (if_pos (by decide +kernel)).trans ?_
  refine (if_pos (by decide +kernel)).trans ?_
  refine lt_to (S := Zs186) rfl ?_
  refine lt_to (S := Zs187) (aw_L (by decide +kernel) rfl (by decide +kernel)) ?_
  refine (if_pos (by decide +kernel)).trans ?_
  refine (if_pos (by decide +kernel)).trans ?_
  refine lt_to (S := Zs188) rfl ?_
  refine lt_to (S := Zs189) (aw_L (by decide +kernel) rfl (by decide +kernel)) ?_
  refine (if_pos (by decide +kernel)).trans ?_
  refine (if_pos (by decide +kernel)).trans ?_
  refine lt_to (S := Zs190) rfl ?_
  rfl
theorem ini_18 : F_X7_init (nx Zs191) Zs192 = some Zs210 := by
  unfold F_X7_init
  refine (if_pos (by decide +kernel)).trans ?_
  refine (if_pos (by decide +kernel)).trans ?_
  refine lt_to (S := Zs193) (aw_L (by decide +kernel) rfl (by decide +kernel)) ?_
  refine (if_pos (by decide +kernel)).trans ?_
  refine (if_pos (by decide +kernel)).trans ?_
  refine lt_to (S := Zs194) rfl ?_
  refine lt_to (S := Zs195) (aw_L (by decide +kernel) rfl (by decide +kernel)) ?_
  refine (if_pos (by decide +kernel)).trans ?_
  refine (if_pos (by decide +kernel)).trans ?_
  refine lt_to (S := Zs196) rfl ?_
  refine lt_to (S := Zs197) (aw_L (by decide +kernel) rfl (by decide +kernel)) ?_
  refine (if_pos (by decide +kernel)).trans ?_
  refine (if_pos (by decide +kernel)).trans ?_
  refine lt_to (S := Zs198) rfl ?_
  refine lt_to (S := Zs199) (aw_L (by decide +kernel) rfl (by decide +kernel)) ?_
  refine (if_pos (by decide +kernel)).trans ?_
  refine (if_pos (by decide +kernel)).trans ?_
  refine lt_to (S := Zs200) rfl ?_
  refine lt_to (S := Zs201) (aw_L (by decide +kernel) rfl (by decide +kernel)) ?_
  refine (if_pos (by decide +kernel)).trans ?_
  refine (if_pos (by decide +kernel)).trans ?_
  refine lt_to (S := Zs202) rfl ?_
  refine lt_to (S := Zs203) (aw_L (by decide +kernel) rfl (by decide +kernel)) ?_
  refine (if_pos (by decide +kernel)).trans ?_
  refine (if_pos (by decide +kernel)).trans ?_
  refine lt_to (S := Zs204) rfl ?_
  refine lt_to (S := Zs205) (aw_L (by decide +kernel) rfl (by decide +kernel)) ?_
  refine (if_pos (by decide +kernel)).trans ?_
  refine (if_pos (by decide +kernel)).trans ?_
  refine lt_to (S := Zs206) rfl ?_
  refine lt_to (S := Zs207) (aw_L (by decide +kernel) rfl (by decide +kernel)) ?_
  refine (if_pos (by decide +kernel)).trans ?_
  refine (if_pos (by decide +kernel)).trans ?_
  refine lt_to (S := Zs208) rfl ?_
  refine lt_to (S := Zs209) (aw_L (by decide +kernel) rfl (by decide +kernel)) ?_
  refine (if_pos (by decide +kernel)).trans ?_
  refine (if_pos (by decide +kernel)).trans ?_
  refine lt_to (S := Zs210) rfl ?_
  rfl
theorem ini_19 : F_X7_init (nx Zs211) Zs212 = some Zs230 := by
  unfold F_X7_init
  refine (if_pos (by decide +kernel)).trans ?_
  refine (if_pos (by decide +kernel)).trans ?_
  refine lt_to (S := Zs213) (aw_L (by decide +kernel) rfl (by decide +kernel)) ?_
  refine (if_pos (by decide +kernel)).trans ?_
  refine (if_pos (by decide +kernel)).trans ?_
  refine lt_to (S := Zs214) rfl ?_
  refine lt_to (S := Zs215) (aw_L (by decide +kernel) rfl (by decide +kernel)) ?_
  refine (if_pos (by decide +kernel)).trans ?_
  refine (if_pos (by decide +kernel)).trans ?_
  refine lt_to (S := Zs216) rfl ?_
  refine lt_to (S := Zs217) (aw_L (by decide +kernel) rfl (by decide +kernel)) ?_
  refine (if_pos (by decide +kernel)).trans ?_
  refine (if_pos (by decide +kernel)).trans ?_
  refine lt_to (S := Zs218) rfl ?_
  refine lt_to (S := Zs219) (aw_L (by decide +kernel) rfl (by decide +kernel)) ?_
  refine (if_pos (by decide +kernel)).trans ?_
  refine (if_pos (by decide +kernel)).trans ?_
  refine lt_to (S := Zs220) rfl ?_
  refine lt_to (S := Zs221) (aw_L (by decide +kernel) rfl (by decide +kernel)) ?_
  refine (if_pos (by decide +kernel)).trans ?_
  refine (if_pos (by decide +kernel)).trans ?_
  refine lt_to (S := Zs222) rfl ?_
  refine lt_to (S := Zs223) (aw_L (by decide +kernel) rfl (by decide +kernel)) ?_
  refine (if_pos (by decide +kernel)).trans ?_
  refine (if_pos (by decide +kernel)).trans ?_
  refine lt_to (S := Zs224) rfl ?_
  refine lt_to (S := Zs225) (aw_L (by decide +kernel) rfl (by decide +kernel)) ?_
  refine (if_pos (by decide +kernel)).trans ?_
  refine (if_pos (by decide +kernel)).trans ?_
  refine lt_to (S := Zs226) rfl ?_
  refine lt_to (S := Zs227) (aw_L (by decide +kernel) rfl (by decide +kernel)) ?_
  refine (if_pos (by decide +kernel)).trans ?_
  refine (if_pos (by decide +kernel)).trans ?_
  refine lt_to (S := Zs228) rfl ?_
  refine lt_to (S := Zs229) (aw_L (by decide +kernel) rfl (by decide +kernel)) ?_
  refine (if_pos (by decide +kernel)).trans ?_
  refine (if_pos (by decide +kernel)).trans ?_
  refine lt_to (S := Zs230) rfl ?_
  rfl
theorem ini_20 : F_X1_init (nx Zs140) 1 34 Zs141 = some Zs231 := by
  unfold F_X1_init
  refine (if_pos (by decide +kernel)).trans ?_
  refine (if_pos (by decide +kernel)).trans ?_
  refine (if_pos (by decide +kernel)).trans ?_
  refine (if_pos (by decide +kernel)).trans ?_
  refine lt_to (S := Zs142) (aw_L (by decide +kernel) rfl (by decide +kernel)) ?_
  refine (if_pos (by decide +kernel)).trans ?_
  refine (if_pos (by decide +kernel)).trans ?_
  refine lt_to (S := Zs143) rfl ?_
  refine lt_to (S := Zs144) (aw_L (by decide +kernel) rfl (by decide +kernel)) ?_
  refine bv_to ini_16 ?_
  refine (if_pos (by decide +kernel)).trans ?_
  refine (if_pos (by decide +kernel)).trans ?_
  refine lt_to (S := Zs163) rfl ?_
  refine (if_pos (by decide +kernel)).trans ?_
  refine (if_pos (by decide +kernel)).trans ?_
  refine lt_to (S := Zs164) (aw_L (by decide +kernel) rfl (by decide +kernel)) ?_
  refine (if_pos (by decide +kernel)).trans ?_
  refine (if_pos (by decide +kernel)).trans ?_
  refine lt_to (S := Zs165) rfl ?_
  refine lt_to (S := Zs166) (aw_L (by decide +kernel) rfl (by decide +kernel)) ?_
  refine (if_pos (by decide +kernel)).trans ?_
  refine (if_pos (by decide +kernel)).trans ?_
  refine lt_to (S := Zs167) rfl ?_
  refine lt_to (S := Zs168) (aw_L (by decide +kernel) rfl (by decide +kernel)) ?_
  refine (if_pos (by decide +kernel)).trans ?_
  refine (if_pos (by decide +kernel)).trans ?_
  refine lt_to (S := Zs169) rfl ?_
  refine (if_pos (by decide +kernel)).trans ?_
  refine (if_pos (by decide +kernel)).trans ?_
  refine (if_pos (by decide +kernel)).trans ?_
  refine (if_pos (by decide +kernel)).trans ?_
  refine lt_to (S := Zs170) rfl ?_
  refine (if_pos (by decide +kernel)).trans ?_
  refine (if_pos (by decide +kernel)).trans ?_
  refine lt_to (S := Zs171) rfl ?_
  show F_X1_init_79 (999999999 + 1) _ _ _ = _
  rw [u79]
  unfold B_X1_init_79
  refine (if_pos (by decide +kernel)).trans ?_
  refine (if_pos (by decide +kernel)).trans ?_
  refine (if_neg (by decide +kernel)).trans ?_
  refine bo_to (q := 80) (by decide +kernel) ?_
  refine (if_pos (by decide +kernel)).trans ?_
  refine lt_to (S := Zs172) (aw_L (by decide +kernel) rfl (by decide +kernel)) ?_
  refine bv_to ini_17 ?_
  refine (if_pos (by decide +kernel)).trans ?_
  refine (if_pos (by decide +kernel)).trans ?_
  refine (if_pos (by decide +kernel)).trans ?_
  refine lt_to (S := Zs191) rfl ?_
  show F_X1_init_79 (999999998 + 1) _ _ _ = _
  rw [u79]
  unfold B_X1_init_79
  refine (if_pos (by decide +kernel)).trans ?_
  refine (if_pos (by decide +kernel)).trans ?_
  refine (if_neg (by decide +kernel)).trans ?_
  refine bo_to (q := 80) (by decide +kernel) ?_
  refine (if_pos (by decide +kernel)).trans ?_
  refine lt_to (S := Zs192) (aw_L (by decide +kernel) rfl (by decide +kernel)) ?_
  refine bv_to ini_18 ?_
  refine (if_pos (by decide +kernel)).trans ?_
  refine (if_pos (by decide +kernel)).trans ?_
  refine (if_pos (by decide +kernel)).trans ?_
  refine lt_to (S := Zs211) rfl ?_
  show F_X1_init_79 (999999997 + 1) _ _ _ = _
  rw [u79]
  unfold B_X1_init_79
  refine (if_pos (by decide +kernel)).trans ?_
  refine (if_pos (by decide +kernel)).trans ?_
  refine (if_neg (by decide +kernel)).trans ?_
  refine bo_to (q := 80) (by decide +kernel) ?_
  refine (if_pos (by decide +kernel)).trans ?_
  refine lt_to (S := Zs212) (aw_L (by decide +kernel) rfl (by decide +kernel)) ?_
  refine bv_to ini_19 ?_
  refine (if_pos (by decide +kernel)).trans ?_
  refine (if_pos (by decide +kernel)).trans ?_
  refine (if_pos (by decide +kernel)).trans ?_
  refine lt_to (S := Zs231) rfl ?_
  show F_X1_init_79 (999999996 + 1) _ _ _ = _
  rw [u79]
  unfold B_X1_init_79
  refine (if_pos (by decide +kernel)).trans ?_
  refine (if_pos (by decide +kernel)).trans ?_
  refine (if_pos (by decide +kernel)).trans ?_
  rfl
theorem ini_21 : F_X4_init (nx Zs232) 1 28 Zs233 = some Zs245 := by
  unfold F_X4_init
  refine (if_pos (by decide +kernel)).trans ?_
  refine (if_pos (by decide +kernel)).trans ?_
  refine (if_pos (by decide +kernel)).trans ?_
  refine (if_pos (by decide +kernel)).trans ?_
  refine lt_to (S := Zs234) (aw_L (by decide +kernel) rfl (by decide +kernel)) ?_
  refine (if_pos (by decide +kernel)).trans ?_
  refine (if_pos (by decide +kernel)).trans ?_
  refine lt_to (S := Zs235) rfl ?_
  refine (if_pos (by decide +kernel)).trans ?_
  refine (if_pos (by decide +kernel)).trans ?_
  refine lt_to (S := Zs236) (aw_L (by decide +kernel) rfl (by decide +kernel)) ?_
  refine (if_pos (by decide +kernel)).trans ?_
  refine (if_pos (by decide +kernel)).trans ?_
  refine lt_to (S := Zs237) rfl ?_
  refine lt_to (S := Zs238) (aw_L (by decide +kernel) rfl (by decide +kernel)) ?_
  refine (if_pos (by decide +kernel)).trans ?_
  refine (if_pos (by decide +kernel)).trans ?_
  refine lt_to (S := Zs239) rfl ?_
  refine lt_to (S := Zs240) (aw_L (by decide +kernel) rfl (by decide +kernel)) ?_
  refine (if_pos (by decide +kernel)).trans ?_
  refine (if_pos (by decide +kernel)).trans ?_
  refine lt_to (S := Zs241) rfl ?_
  refine lt_to (S := Zs242) (aw_L (by decide +kernel) rfl (by decide +kernel)) ?_
  refine (if_pos (by decide +kernel)).trans ?_
  refine (if_pos (by decide +kernel)).trans ?_
  refine lt_to (S := Zs243) rfl ?_
  refine (if_pos (by decide +kernel)).trans ?_
  refine (if_pos (by decide +kernel)).trans ?_
  refine lt_to (S := Zs244) rfl ?_
  refine (if_pos (by decide +kernel)).trans ?_
  refine (if_pos (by decide +kernel)).trans ?_
  refine lt_to (S := Zs245) rfl ?_
  rfl
theorem ini_22 : F_X2_init (nx Zs246) 1 28 113 Zs247 = some Zs258 := by
  unfold F_X2_init
  refine (if_pos (by decide +kernel)).trans ?_
  refine (if_pos (by decide +kernel)).trans ?_
  refine (if_pos (by decide +kernel)).trans ?_
  refine (if_pos (by decide +kernel)).trans ?_
  refine lt_to (S := Zs248) (aw_L (by decide +kernel) rfl (by decide +kernel)) ?_
  refine (if_pos (by decide +kernel)).trans ?_
  refine (if_pos (by decide +kernel)).trans ?_
  refine lt_to (S := Zs249) rfl ?_
  refine lt_to (S := Zs250) (aw_L (by decide +kernel) rfl (by decide +kernel)) ?_
  refine (if_pos (by decide +kernel)).trans ?_
  refine (if_pos (by decide +kernel)).trans ?_
  refine lt_to (S := Zs251) rfl ?_
  refine lt_to (S := Zs252) (aw_L (by decide +kernel) rfl (by decide +kernel)) ?_
  refine (if_pos (by decide +kernel)).trans ?_
  refine (if_pos (by decide +kernel)).trans ?_
  refine lt_to (S := Zs253) rfl ?_
  refine lt_to (S := Zs254) (aw_L (by decide +kernel) rfl (by decide +kernel)) ?_
  refine (if_pos (by decide +kernel)).trans ?_
  refine (if_pos (by decide +kernel)).trans ?_
  refine lt_to (S := Zs255) rfl ?_
  refine (if_pos (by decide +kernel)).trans ?_
  refine (if_pos (by decide +kernel)).trans ?_
  refine lt_to (S := Zs256) rfl ?_
  refine (if_pos (by decide +kernel)).trans ?_
  refine (if_pos (by decide +kernel)).trans ?_
  refine lt_to (S := Zs257) rfl ?_
  refine (if_pos (by decide +kernel)).trans ?_
  refine (if_pos (by decide +kernel)).trans ?_
  refine lt_to (S := Zs258) rfl ?_
  rfl
theorem ini_23 : F_X11_init (nx E0) Zs0 = some Zs260 := by
  unfold F_X11_init
  refine (if_pos (by decide +kernel)).trans ?_
  refine (if_pos (by decide +kernel)).trans ?_
  refine lt_to (S := Zs1) (aw_L (by decide +kernel) rfl (by decide +kernel)) ?_
  refine bv_to ini_8 ?_
  refine (if_pos (by decide +kernel)).trans ?_
  refine (if_pos (by decide +kernel)).trans ?_
  refine lt_to (S := Zs40) rfl ?_
  refine lt_to (S := Zs41) (aw_L (by decide +kernel) rfl (by decide +kernel)) ?_
  refine (if_pos (by decide +kernel)).trans ?_
  refine (if_pos (by decide +kernel)).trans ?_
  refine lt_to (S := Zs42) rfl ?_
  refine lt_to (S := Zs43) (aw_L (by decide +kernel) rfl (by decide +kernel)) ?_
  refine bv_to ini_9 ?_
  refine (if_pos (by decide +kernel)).trans ?_
  refine (if_pos (by decide +kernel)).trans ?_
  refine lt_to (S := Zs54) rfl ?_
  refine lt_to (S := Zs55) (aw_L (by decide +kernel) rfl (by decide +kernel)) ?_
  refine bo_to (q := 1) (by decide +kernel) ?_
  refine (if_pos (by decide +kernel)).trans ?_
  refine bv_to ini_10 ?_
  refine (if_pos (by decide +kernel)).trans ?_
  refine (if_pos (by decide +kernel)).trans ?_
  refine lt_to (S := Zs68) rfl ?_
  refine lt_to (S := Zs69) (aw_L (by decide +kernel) rfl (by decide +kernel)) ?_
  refine bo_to (q := 1) (by decide +kernel) ?_
  refine (if_pos (by decide +kernel)).trans ?_
  refine bo_to (q := 28) (by decide +kernel) ?_
  refine (if_pos (by decide +kernel)).trans ?_
  refine bv_to ini_11 ?_
  refine (if_pos (by decide +kernel)).trans ?_
  refine (if_pos (by decide +kernel)).trans ?_
  refine lt_to (S := Zs90) rfl ?_
  refine lt_to (S := Zs91) (aw_L (by decide +kernel) rfl (by decide +kernel)) ?_
  refine bv_to ini_13 ?_
  refine (if_pos (by decide +kernel)).trans ?_
  refine (if_pos (by decide +kernel)).trans ?_
  refine lt_to (S := Zs115) rfl ?_
  refine lt_to (S := Zs116) (aw_L (by decide +kernel) rfl (by decide +kernel)) ?_
  refine bv_to ini_15 ?_
  refine (if_pos (by decide +kernel)).trans ?_
  refine (if_pos (by decide +kernel)).trans ?_
  refine lt_to (S := Zs140) rfl ?_
  refine lt_to (S := Zs141) (aw_L (by decide +kernel) rfl (by decide +kernel)) ?_
  refine bo_to (q := 1) (by decide +kernel) ?_
  refine (if_pos (by decide +kernel)).trans ?_
  refine bo_to (q := 34) (by decide +kernel) ?_
  refine (if_pos (by decide +kernel)).trans ?_
  refine bv_to ini_20 ?_
  refine (if_pos (by decide +kernel)).trans ?_
  refine (if_pos (by decide +kernel)).trans ?_
  refine lt_to (S := Zs232) rfl ?_
  refine lt_to (S := Zs233) (aw_L (by decide +kernel) rfl (by decide +kernel)) ?_
  refine bo_to (q := 1) (by decide +kernel) ?_
  refine (if_pos (by decide +kernel)).trans ?_
  refine bo_to (q := 28) (by decide +kernel) ?_
  refine (if_pos (by decide +kernel)).trans ?_
  refine bv_to ini_21 ?_
  refine (if_pos (by decide +kernel)).trans ?_
  refine (if_pos (by decide +kernel)).trans ?_
  refine lt_to (S := Zs246) rfl ?_
  refine lt_to (S := Zs247) (aw_L (by decide +kernel) rfl (by decide +kernel)) ?_
  refine bo_to (q := 1) (by decide +kernel) ?_
  refine (if_pos (by decide +kernel)).trans ?_
  refine bo_to (q := 28) (by decide +kernel) ?_
  refine (if_pos (by decide +kernel)).trans ?_
  refine bo_to (q := 113) (by decide +kernel) ?_
  refine (if_pos (by decide +kernel)).trans ?_
  refine bv_to ini_22 ?_
  refine (if_pos (by decide +kernel)).trans ?_
  refine (if_pos (by decide +kernel)).trans ?_
  refine lt_to (S := Zs259) rfl ?_
  refine (if_pos (by decide +kernel)).trans ?_
  rfl
theorem ini_24 : F_X12_init (nx Zs260) Zs261 = some Zs343 := by
  unfold F_X12_init
  refine (if_pos (by decide +kernel)).trans ?_
  refine (if_pos (by decide +kernel)).trans ?_
  refine lt_to (S := Zs262) (aw_L (by decide +kernel) rfl (by decide +kernel)) ?_
  refine (if_pos (by decide +kernel)).trans ?_
  refine (if_pos (by decide +kernel)).trans ?_
  refine lt_to (S := Zs263) rfl ?_
  refine lt_to (S := Zs264) (aw_L (by decide +kernel) rfl (by decide +kernel)) ?_
  refine (if_pos (by decide +kernel)).trans ?_
  refine (if_pos (by decide +kernel)).trans ?_
  refine lt_to (S := Zs265) rfl ?_
  refine lt_to (S := Zs266) (aw_L (by decide +kernel) rfl (by decide +kernel)) ?_
  refine (if_pos (by decide +kernel)).trans ?_
  refine (if_pos (by decide +kernel)).trans ?_
  refine lt_to (S := Zs267) rfl ?_
  refine lt_to (S := Zs268) (aw_L (by decide +kernel) rfl (by decide +kernel)) ?_
  refine (if_pos (by decide +kernel)).trans ?_
  refine (if_pos (by decide +kernel)).trans ?_
  refine lt_to (S := Zs269) rfl ?_
  refine (if_pos (by decide +kernel)).trans ?_
  refine lt_to (S := Zs270) (aw_L (by decide +kernel) rfl (by decide +kernel)) ?_
  refine (if_pos (by decide +kernel)).trans ?_
  refine (if_pos (by decide +kernel)).trans ?_
  refine lt_to (S := Zs271) rfl ?_
  refine lt_to (S := Zs272) (aw_L (by decide +kernel) rfl (by decide +kernel)) ?_
  refine (if_pos (by decide +kernel)).trans ?_
  refine (if_pos (by decide +kernel)).trans ?_
  refine lt_to (S := Zs273) rfl ?_
  refine lt_to (S := Zs274) (aw_L (by decide +kernel) rfl (by decide +kernel)) ?_
  refine (if_pos (by decide +kernel)).trans ?_
  refine (if_pos (by decide +kernel)).trans ?_
  refine lt_to (S := Zs275) rfl ?_
  refine lt_to (S := Zs276) (aw_L (by decide +kernel) rfl (by decide +kernel)) ?_
  refine (if_pos (by decide +kernel)).trans ?_
  refine (if_pos (by decide +kernel)).trans ?_
  refine lt_to (S := Zs277) rfl ?_
  refine lt_to (S := Zs278) (aw_L (by decide +kernel) rfl (by decide +kernel)) ?_
  refine (if_pos (by decide +kernel)).trans ?_
  refine (if_pos (by decide +kernel)).trans ?_
  refine lt_to (S := Zs279) rfl ?_
  refine (if_pos (by decide +kernel)).trans ?_
  refine lt_to (S := Zs280) (aw_L (by decide +kernel) rfl (by decide +kernel)) ?_
  refine (if_pos (by decide +kernel)).trans ?_
  refine (if_pos (by decide +kernel)).trans ?_
  refine lt_to (S := Zs281) rfl ?_
  refine lt_to (S := Zs282) (aw_L (by decide +kernel) rfl (by decide +kernel)) ?_
  refine (if_pos (by decide +kernel)).trans ?_
  refine (if_pos (by decide +kernel)).trans ?_
  refine lt_to (S := Zs283) rfl ?_
  refine lt_to (S := Zs284) (aw_L (by decide +kernel) rfl (by decide +kernel)) ?_
  refine (if_pos (by decide +kernel)).trans ?_
  refine (if_pos (by decide +kernel)).trans ?_
  refine lt_to (S := Zs285) rfl ?_
  refine lt_to (S := Zs286) (aw_L (by decide +kernel) rfl (by decide +kernel)) ?_
  refine (if_pos (by decide +kernel)).trans ?_
  refine (if_pos (by decide +kernel)).trans ?_
  refine lt_to (S := Zs287) rfl ?_
  refine lt_to (S := Zs288) (aw_L (by decide +kernel) rfl (by decide +kernel)) ?_
  refine (if_pos (by decide +kernel)).trans ?_
  refine (if_pos (by decide +kernel)).trans ?_
  refine lt_to (S := Zs289) rfl ?_
  refine lt_to (S := Zs290) (aw_L (by decide +kernel) rfl (by decide +kernel)) ?_
  refine (if_pos (by decide +kernel)).trans ?_
  refine (if_pos (by decide +kernel)).trans ?_
  refine lt_to (S := Zs291) rfl ?_
  refine lt_to (S := Zs292) (aw_L (by decide +kernel) rfl (by decide +kernel)) ?_
  refine (if_pos (by decide +kernel)).trans ?_
  refine (if_pos (by decide +kernel)).trans ?_
  refine lt_to (S := Zs293) rfl ?_
  refine lt_to (S := Zs294) (aw_L (by decide +kernel) rfl (by decide +kernel)) ?_
  refine (if_pos (by decide +kernel)).trans ?_
  refine (if_pos (by decide +kernel)).trans ?_
  refine lt_to (S := Zs295) rfl ?_
  refine lt_to (S := Zs296) (aw_L (by decide +kernel) rfl (by decide +kernel)) ?_
  refine (if_pos (by decide +kernel)).trans ?_
  refine (if_pos (by decide +kernel)).trans ?_
  refine lt_to (S := Zs297) rfl ?_
  refine lt_to (S := Zs298) (aw_L (by decide +kernel) rfl (by decide +kernel)) ?_
  refine (if_pos (by decide +kernel)).trans ?_
  refine (if_pos (by decide +kernel)).trans ?_
  refine lt_to (S := Zs299) rfl ?_
  refine lt_to (S := Zs300) (aw_L (by decide +kernel) rfl (by decide +kernel)) ?_
  refine (if_pos (by decide +kernel)).trans ?_
  refine (if_pos (by decide +kernel)).trans ?_
  refine lt_to (S := Zs301) rfl ?_
  refine lt_to (S := Zs302) (aw_L (by decide +kernel) rfl (by decide +kernel)) ?_
  refine (if_pos (by decide +kernel)).trans ?_
  refine (if_pos (by decide +kernel)).trans ?_
  refine lt_to (S := Zs303) rfl ?_
  refine lt_to (S := Zs304) (aw_L (by decide +kernel) rfl (by decide +kernel)) ?_
  refine (if_pos (by decide +kernel)).trans ?_
  refine (if_pos (by decide +kernel)).trans ?_
  refine lt_to (S := Zs305) rfl ?_
  refine lt_to (S := Zs306) (aw_L (by decide +kernel) rfl (by decide +kernel)) ?_
  refine (if_pos (by decide +kernel)).trans ?_
  refine (if_pos (by decide +kernel)).trans ?_
  refine lt_to (S := Zs307) rfl ?_
  refine lt_to (S := Zs308) (aw_L (by decide +kernel) rfl (by decide +kernel)) ?_
  refine (if_pos (by decide +kernel)).trans ?_
  refine (if_pos (by decide +kernel)).trans ?_
  refine lt_to (S := Zs309) rfl ?_
  refine lt_to (S := Zs310) (aw_L (by decide +kernel) rfl (by decide +kernel)) ?_
  refine (if_pos (by decide +kernel)).trans ?_
  refine (if_pos (by decide +kernel)).trans ?_
  refine lt_to (S := Zs311) rfl ?_
  refine lt_to (S := Zs312) (aw_L (by decide +kernel) rfl (by decide +kernel)) ?_
  refine (if_pos (by decide +kernel)).trans ?_
  refine (if_pos (by decide +kernel)).trans ?_
  refine lt_to (S := Zs313) rfl ?_
  refine lt_to (S := Zs314) (aw_L (by decide +kernel) rfl (by decide +kernel)) ?_
  refine (if_pos (by decide +kernel)).trans ?_
  refine (if_pos (by decide +kernel)).trans ?_
  refine lt_to (S := Zs315) rfl ?_
  refine lt_to (S := Zs316) (aw_L (by decide +kernel) rfl (by decide +kernel)) ?_
  refine (if_pos (by decide +kernel)).trans ?_
  refine (if_pos (by decide +kernel)).trans ?_
  refine lt_to (S := Zs317) rfl ?_
  refine lt_to (S := Zs318) (aw_L (by decide +kernel) rfl (by decide +kernel)) ?_
  refine (if_pos (by decide +kernel)).trans ?_
  refine (if_pos (by decide +kernel)).trans ?_
  refine lt_to (S := Zs319) rfl ?_
  refine lt_to (S := Zs320) (aw_L (by decide +kernel) rfl (by decide +kernel)) ?_
  refine (if_pos (by decide +kernel)).trans ?_
  refine (if_pos (by decide +kernel)).trans ?_
  refine lt_to (S := Zs321) rfl ?_
  refine lt_to (S := Zs322) (aw_L (by decide +kernel) rfl (by decide +kernel)) ?_
  refine (if_pos (by decide +kernel)).trans ?_
  refine (if_pos (by decide +kernel)).trans ?_
  refine lt_to (S := Zs323) rfl ?_
  refine lt_to (S := Zs324) (aw_L (by decide +kernel) rfl (by decide +kernel)) ?_
  refine (if_pos (by decide +kernel)).trans ?_
  refine (if_pos (by decide +kernel)).trans ?_
  refine lt_to (S := Zs325) rfl ?_
  refine lt_to (S := Zs326) (aw_L (by decide +kernel) rfl (by decide +kernel)) ?_
  refine (if_pos (by decide +kernel)).trans ?_
  refine (if_pos (by decide +kernel)).trans ?_
  refine lt_to (S := Zs327) rfl ?_
  refine lt_to (S := Zs328) (aw_L (by decide +kernel) rfl (by decide +kernel)) ?_
  refine (if_pos (by decide +kernel)).trans ?_
  refine (if_pos (by decide +kernel)).trans ?_
  refine lt_to (S := Zs329) rfl ?_
  refine lt_to (S := Zs330) (aw_L (by decide +kernel) rfl (by decide +kernel)) ?_
  refine (if_pos (by decide +kernel)).trans ?_
  refine (if_pos (by decide +kernel)).trans ?_
  refine lt_to (S := Zs331) rfl ?_
  refine lt_to (S := Zs332) (aw_L (by decide +kernel) rfl (by decide +kernel)) ?_
  refine (if_pos (by decide +kernel)).trans ?_
  refine (if_pos (by decide +kernel)).trans ?_
  refine lt_to (S := Zs333) rfl ?_
  refine lt_to (S := Zs334) (aw_L (by decide +kernel) rfl (by decide +kernel)) ?_
  refine (if_pos (by decide +kernel)).trans ?_
  refine (if_pos (by decide +kernel)).trans ?_
  refine lt_to (S := Zs335) rfl ?_
  refine lt_to (S := Zs336) (aw_L (by decide +kernel) rfl (by decide +kernel)) ?_
  refine (if_pos (by decide +kernel)).trans ?_
  refine (if_pos (by decide +kernel)).trans ?_
  refine lt_to (S := Zs337) rfl ?_
  refine lt_to (S := Zs338) (aw_L (by decide +kernel) rfl (by decide +kernel)) ?_
  refine (if_pos (by decide +kernel)).trans ?_
  refine (if_pos (by decide +kernel)).trans ?_
  refine lt_to (S := Zs339) rfl ?_
  refine lt_to (S := Zs340) (aw_L (by decide +kernel) rfl (by decide +kernel)) ?_
  refine (if_pos (by decide +kernel)).trans ?_
  refine (if_pos (by decide +kernel)).trans ?_
  refine lt_to (S := Zs341) rfl ?_
  refine lt_to (S := Zs342) (aw_L (by decide +kernel) rfl (by decide +kernel)) ?_
  refine (if_pos (by decide +kernel)).trans ?_
  refine (if_pos (by decide +kernel)).trans ?_
  refine lt_to (S := Zs343) rfl ?_
  rfl
def Zend : AH := Zs343
def Zmid : AH := Zs260
theorem ini_a : F_X11_init (nx E0) (aw E0 11 (NO 11)) = some Zmid := (congrArg (F_X11_init (nx E0)) (aw_L (by decide +kernel) rfl (by decide +kernel))).trans ini_23
theorem ini_b : F_X12_init (nx Zmid) (aw Zmid 12 (NO 12)) = some Zend := (congrArg (F_X12_init (nx Zmid)) (aw_L (by decide +kernel) rfl (by decide +kernel))).trans ini_24
end
