/-! ===== the reference on any heap that holds its cells (printed by wip/gen/bm.py) ===== -/
def bMm (M : zS → ai_H) (n : Nat) : Prop := (∀ s : zS, kO n (M s) 187 11 = some ()) ∧
  (∀ s : zS, pR n (M s) 187 11 0 = some (188)) ∧
  (∀ s : zS, pI n (M s) 187 11 1 = some (s.1 (187) 1)) ∧
  (∀ (s : zS) (x : Int32), sF n (M s) 187 11 1 .int (.int x) = some (M (wI s (187) 1 x))) ∧
  (∀ s : zS, pI n (M s) 187 11 2 = some (s.1 (187) 2)) ∧
  (∀ (s : zS) (x : Int32), sF n (M s) 187 11 2 .int (.int x) = some (M (wI s (187) 2 x))) ∧
  (∀ s : zS, pR n (M s) 187 11 3 = some (189)) ∧
  (∀ s : zS, pI n (M s) 187 11 4 = some (s.1 (187) 4)) ∧
  (∀ (s : zS) (x : Int32), sF n (M s) 187 11 4 .int (.int x) = some (M (wI s (187) 4 x))) ∧
  (∀ s : zS, pI n (M s) 187 11 5 = some (s.1 (187) 5)) ∧
  (∀ (s : zS) (x : Int32), sF n (M s) 187 11 5 .int (.int x) = some (M (wI s (187) 5 x))) ∧
  (∀ s : zS, pI n (M s) 187 11 6 = some (s.1 (187) 6)) ∧
  (∀ (s : zS) (x : Int32), sF n (M s) 187 11 6 .int (.int x) = some (M (wI s (187) 6 x))) ∧
  (∀ s : zS, pI n (M s) 187 11 7 = some (s.1 (187) 7)) ∧
  (∀ (s : zS) (x : Int32), sF n (M s) 187 11 7 .int (.int x) = some (M (wI s (187) 7 x))) ∧
  (∀ s : zS, pI n (M s) 187 11 8 = some (s.1 (187) 8)) ∧
  (∀ (s : zS) (x : Int32), sF n (M s) 187 11 8 .int (.int x) = some (M (wI s (187) 8 x))) ∧
  (∀ s : zS, pI n (M s) 187 11 9 = some (s.1 (187) 9)) ∧
  (∀ (s : zS) (x : Int32), sF n (M s) 187 11 9 .int (.int x) = some (M (wI s (187) 9 x))) ∧
  (∀ s : zS, pI n (M s) 187 11 10 = some (s.1 (187) 10)) ∧
  (∀ (s : zS) (x : Int32), sF n (M s) 187 11 10 .int (.int x) = some (M (wI s (187) 10 x))) ∧
  (∀ s : zS, pI n (M s) 187 11 11 = some (s.1 (187) 11)) ∧
  (∀ (s : zS) (x : Int32), sF n (M s) 187 11 11 .int (.int x) = some (M (wI s (187) 11 x))) ∧
  (∀ s : zS, pI n (M s) 187 11 12 = some (s.1 (187) 12)) ∧
  (∀ (s : zS) (x : Int32), sF n (M s) 187 11 12 .int (.int x) = some (M (wI s (187) 12 x))) ∧
  (∀ s : zS, pI n (M s) 187 11 13 = some (s.1 (187) 13)) ∧
  (∀ (s : zS) (x : Int32), sF n (M s) 187 11 13 .int (.int x) = some (M (wI s (187) 13 x))) ∧
  (∀ s : zS, pI n (M s) 187 11 14 = some (s.1 (187) 14)) ∧
  (∀ (s : zS) (x : Int32), sF n (M s) 187 11 14 .int (.int x) = some (M (wI s (187) 14 x))) ∧
  (∀ s : zS, pI n (M s) 187 11 15 = some (s.1 (187) 15)) ∧
  (∀ (s : zS) (x : Int32), sF n (M s) 187 11 15 .int (.int x) = some (M (wI s (187) 15 x))) ∧
  (∀ s : zS, pI n (M s) 187 11 16 = some (s.1 (187) 16)) ∧
  (∀ (s : zS) (x : Int32), sF n (M s) 187 11 16 .int (.int x) = some (M (wI s (187) 16 x))) ∧
  (∀ s : zS, pI n (M s) 187 11 17 = some (s.1 (187) 17)) ∧
  (∀ (s : zS) (x : Int32), sF n (M s) 187 11 17 .int (.int x) = some (M (wI s (187) 17 x))) ∧
  (∀ s : zS, pI n (M s) 187 11 18 = some (s.1 (187) 18)) ∧
  (∀ (s : zS) (x : Int32), sF n (M s) 187 11 18 .int (.int x) = some (M (wI s (187) 18 x))) ∧
  (∀ s : zS, pI n (M s) 187 11 19 = some (s.1 (187) 19)) ∧
  (∀ (s : zS) (x : Int32), sF n (M s) 187 11 19 .int (.int x) = some (M (wI s (187) 19 x))) ∧
  (∀ s : zS, pI n (M s) 187 11 20 = some (s.1 (187) 20)) ∧
  (∀ (s : zS) (x : Int32), sF n (M s) 187 11 20 .int (.int x) = some (M (wI s (187) 20 x))) ∧
  (∀ s : zS, pI n (M s) 187 11 21 = some (s.1 (187) 21)) ∧
  (∀ (s : zS) (x : Int32), sF n (M s) 187 11 21 .int (.int x) = some (M (wI s (187) 21 x))) ∧
  (∀ s : zS, pI n (M s) 187 11 22 = some (s.1 (187) 22)) ∧
  (∀ (s : zS) (x : Int32), sF n (M s) 187 11 22 .int (.int x) = some (M (wI s (187) 22 x))) ∧
  (∀ s : zS, pI n (M s) 187 11 23 = some (s.1 (187) 23)) ∧
  (∀ (s : zS) (x : Int32), sF n (M s) 187 11 23 .int (.int x) = some (M (wI s (187) 23 x))) ∧
  (∀ s : zS, pR n (M s) 187 11 24 = some (190)) ∧
  (∀ s : zS, pR n (M s) 187 11 25 = some (191)) ∧
  (∀ s : zS, pR n (M s) 187 11 26 = some (192)) ∧
  (∀ s : zS, pR n (M s) 187 11 27 = some (193)) ∧
  (∀ s : zS, pR n (M s) 187 11 28 = some (194)) ∧
  (∀ s : zS, pR n (M s) 187 11 29 = some (195)) ∧
  (∀ s : zS, pR n (M s) 187 11 30 = some (196)) ∧
  (∀ s : zS, pR n (M s) 187 11 31 = some (197)) ∧
  (∀ s : zS, pR n (M s) 187 11 32 = some (198)) ∧
  (∀ s : zS, pR n (M s) 187 11 33 = some (199)) ∧
  (∀ s : zS, pR n (M s) 187 11 34 = some (200)) ∧
  (∀ s : zS, pR n (M s) 187 11 35 = some (201)) ∧
  (∀ s : zS, pR n (M s) 187 11 36 = some (202)) ∧
  (∀ s : zS, pR n (M s) 187 11 37 = some (203)) ∧
  (∀ s : zS, pR n (M s) 187 11 38 = some (204)) ∧
  (∀ s : zS, pR n (M s) 187 11 39 = some (205)) ∧
  (∀ s : zS, pR n (M s) 187 11 40 = some (206)) ∧
  (∀ s : zS, pR n (M s) 187 11 41 = some (207)) ∧
  (∀ s : zS, pR n (M s) 187 11 42 = some (208)) ∧
  (∀ s : zS, pR n (M s) 187 11 43 = some (209)) ∧
  (∀ s : zS, pR n (M s) 187 11 44 = some (210)) ∧
  (∀ s : zS, pR n (M s) 187 11 45 = some (211)) ∧
  (∀ s : zS, pR n (M s) 187 11 46 = some (212)) ∧
  (∀ s : zS, pR n (M s) 187 11 47 = some (213)) ∧
  (∀ s : zS, pR n (M s) 187 11 48 = some (214)) ∧
  (∀ s : zS, pR n (M s) 187 11 49 = some (215)) ∧
  (∀ s : zS, pR n (M s) 187 11 50 = some (216)) ∧
  (∀ s : zS, pI n (M s) 187 11 51 = some (s.1 (187) 51)) ∧
  (∀ (s : zS) (x : Int32), sF n (M s) 187 11 51 .int (.int x) = some (M (wI s (187) 51 x))) ∧
  (∀ s : zS, pI n (M s) 187 11 52 = some (s.1 (187) 52)) ∧
  (∀ (s : zS) (x : Int32), sF n (M s) 187 11 52 .int (.int x) = some (M (wI s (187) 52 x))) ∧
  (∀ s : zS, pI n (M s) 187 11 53 = some (s.1 (187) 53)) ∧
  (∀ (s : zS) (x : Int32), sF n (M s) 187 11 53 .int (.int x) = some (M (wI s (187) 53 x))) ∧
  (∀ s : zS, pI n (M s) 187 11 54 = some (s.1 (187) 54)) ∧
  (∀ (s : zS) (x : Int32), sF n (M s) 187 11 54 .int (.int x) = some (M (wI s (187) 54 x))) ∧
  (∀ s : zS, pI n (M s) 187 11 55 = some (s.1 (187) 55)) ∧
  (∀ s : zS, sF n (M s) 187 11 55 .boolean (.int 0) = some (M (wI s (187) 55 0))) ∧
  (∀ s : zS, sF n (M s) 187 11 55 .boolean (.int 1) = some (M (wI s (187) 55 1))) ∧
  (∀ s : zS, pI n (M s) 187 11 56 = some (s.1 (187) 56)) ∧
  (∀ s : zS, sF n (M s) 187 11 56 .boolean (.int 0) = some (M (wI s (187) 56 0))) ∧
  (∀ s : zS, sF n (M s) 187 11 56 .boolean (.int 1) = some (M (wI s (187) 56 1))) ∧
  (∀ s : zS, pR n (M s) 187 11 57 = some (217)) ∧
  (∀ s : zS, pR n (M s) 187 11 58 = some (218)) ∧
  (∀ s : zS, pI n (M s) 187 11 59 = some (s.1 (187) 59)) ∧
  (∀ s : zS, sF n (M s) 187 11 59 .boolean (.int 0) = some (M (wI s (187) 59 0))) ∧
  (∀ s : zS, sF n (M s) 187 11 59 .boolean (.int 1) = some (M (wI s (187) 59 1))) ∧
  (∀ s : zS, pR n (M s) 187 11 60 = some (219)) ∧
  (∀ s : zS, pR n (M s) 187 11 61 = some (220)) ∧
  (∀ s : zS, pR n (M s) 187 11 62 = some (221)) ∧
  (∀ s : zS, pR n (M s) 187 11 63 = some (222)) ∧
  (∀ s : zS, pR n (M s) 187 11 64 = some (223)) ∧
  (∀ s : zS, pR n (M s) 187 11 65 = some (224)) ∧
  (∀ s : zS, pR n (M s) 187 11 66 = some (225)) ∧
  (∀ s : zS, pR n (M s) 187 11 67 = some (226)) ∧
  (∀ s : zS, pJ n (M s) 187 11 68 = some (s.2.1 (187) 68)) ∧
  (∀ (s : zS) (x : Int64), sF n (M s) 187 11 68 .long (.long x) = some (M (wL s (187) 68 x))) ∧
  (∀ s : zS, pI n (M s) 187 11 69 = some (s.1 (187) 69)) ∧
  (∀ s : zS, sF n (M s) 187 11 69 .boolean (.int 0) = some (M (wI s (187) 69 0))) ∧
  (∀ s : zS, sF n (M s) 187 11 69 .boolean (.int 1) = some (M (wI s (187) 69 1))) ∧
  (∀ s : zS, pI n (M s) 187 11 70 = some (s.1 (187) 70)) ∧
  (∀ s : zS, sF n (M s) 187 11 70 .boolean (.int 0) = some (M (wI s (187) 70 0))) ∧
  (∀ s : zS, sF n (M s) 187 11 70 .boolean (.int 1) = some (M (wI s (187) 70 1))) ∧
  (∀ s : zS, pI n (M s) 187 11 71 = some (s.1 (187) 71)) ∧
  (∀ s : zS, sF n (M s) 187 11 71 .boolean (.int 0) = some (M (wI s (187) 71 0))) ∧
  (∀ s : zS, sF n (M s) 187 11 71 .boolean (.int 1) = some (M (wI s (187) 71 1))) ∧
  (∀ s : zS, pI n (M s) 187 11 72 = some (s.1 (187) 72)) ∧
  (∀ s : zS, sF n (M s) 187 11 72 .boolean (.int 0) = some (M (wI s (187) 72 0))) ∧
  (∀ s : zS, sF n (M s) 187 11 72 .boolean (.int 1) = some (M (wI s (187) 72 1))) ∧
  (∀ s : zS, pI n (M s) 187 11 73 = some (s.1 (187) 73)) ∧
  (∀ s : zS, sF n (M s) 187 11 73 .boolean (.int 0) = some (M (wI s (187) 73 0))) ∧
  (∀ s : zS, sF n (M s) 187 11 73 .boolean (.int 1) = some (M (wI s (187) 73 1))) ∧
  (∀ s : zS, pI n (M s) 187 11 74 = some (s.1 (187) 74)) ∧
  (∀ (s : zS) (x : Int32), sF n (M s) 187 11 74 .int (.int x) = some (M (wI s (187) 74 x))) ∧
  (∀ s : zS, pI n (M s) 187 11 75 = some (s.1 (187) 75)) ∧
  (∀ (s : zS) (x : Int32), sF n (M s) 187 11 75 .int (.int x) = some (M (wI s (187) 75 x))) ∧
  (∀ s : zS, pI n (M s) 187 11 76 = some (s.1 (187) 76)) ∧
  (∀ (s : zS) (x : Int32), sF n (M s) 187 11 76 .int (.int x) = some (M (wI s (187) 76 x))) ∧
  (∀ s : zS, pR n (M s) 187 11 77 = some (227)) ∧
  (∀ s : zS, pR n (M s) 187 11 78 = some (228)) ∧
  (∀ s : zS, pR n (M s) 187 11 79 = some (229)) ∧
  (∀ s : zS, pR n (M s) 187 11 80 = some (230)) ∧
  (∀ s : zS, pR n (M s) 187 11 81 = some (231)) ∧
  (∀ s : zS, pI n (M s) 187 11 82 = some (s.1 (187) 82)) ∧
  (∀ (s : zS) (x : Int32), sF n (M s) 187 11 82 .int (.int x) = some (M (wI s (187) 82 x))) ∧
  (∀ s : zS, pR n (M s) 187 11 83 = some (232)) ∧
  (∀ s : zS, pI n (M s) 187 11 84 = some (s.1 (187) 84)) ∧
  (∀ (s : zS) (x : Int32), sF n (M s) 187 11 84 .int (.int x) = some (M (wI s (187) 84 x))) ∧
  (∀ s : zS, pI n (M s) 187 11 85 = some (s.1 (187) 85)) ∧
  (∀ (s : zS) (x : Int32), sF n (M s) 187 11 85 .int (.int x) = some (M (wI s (187) 85 x))) ∧
  (∀ s : zS, pR n (M s) 187 11 86 = some (233)) ∧
  (∀ s : zS, pR n (M s) 187 11 87 = some (234)) ∧
  (∀ s : zS, pR n (M s) 187 11 88 = some (235)) ∧
  (∀ s : zS, pI n (M s) 187 11 89 = some (s.1 (187) 89)) ∧
  (∀ (s : zS) (x : Int32), sF n (M s) 187 11 89 .int (.int x) = some (M (wI s (187) 89 x))) ∧
  (∀ s : zS, pR n (M s) 187 11 90 = some (236)) ∧
  (∀ s : zS, pI n (M s) 187 11 91 = some (s.1 (187) 91)) ∧
  (∀ s : zS, sF n (M s) 187 11 91 .boolean (.int 0) = some (M (wI s (187) 91 0))) ∧
  (∀ s : zS, sF n (M s) 187 11 91 .boolean (.int 1) = some (M (wI s (187) 91 1))) ∧
  (∀ s : zS, pR n (M s) 187 11 92 = some (237)) ∧
  (∀ s : zS, pI n (M s) 187 11 93 = some (s.1 (187) 93)) ∧
  (∀ (s : zS) (x : Int32), sF n (M s) 187 11 93 .int (.int x) = some (M (wI s (187) 93 x))) ∧
  (∀ s : zS, pI n (M s) 187 11 94 = some (s.1 (187) 94)) ∧
  (∀ (s : zS) (x : Int32), sF n (M s) 187 11 94 .int (.int x) = some (M (wI s (187) 94 x))) ∧
  (∀ s : zS, pJ n (M s) 187 11 95 = some (s.2.1 (187) 95)) ∧
  (∀ (s : zS) (x : Int64), sF n (M s) 187 11 95 .long (.long x) = some (M (wL s (187) 95 x)))
def bMma (M : zS → ai_H) (n : Nat) : Prop := (∀ (s : zS) (j : Nat), j < 700 → gX 1 n (M s) 188 (nI j) = some (s.1 (188) j)) ∧
  (∀ (s : zS) (j : Nat) (x : Int32), j < 700 → wX 1 (fun x => x) n (M s) 188 (nI j) x = some (M (wI s (188) j x))) ∧
  (∀ s : zS, lA n (M s) 188 = some (nI 700)) ∧
  (∀ (s : zS) (j : Nat), j < 108 → gX 1 n (M s) 189 (nI j) = some (s.1 (189) j)) ∧
  (∀ (s : zS) (j : Nat) (x : Int32), j < 108 → wX 1 (fun x => x) n (M s) 189 (nI j) x = some (M (wI s (189) j x))) ∧
  (∀ s : zS, lA n (M s) 189 = some (nI 108)) ∧
  (∀ (s : zS) (j : Nat), j < 3 → gB n (M s) 190 (nI j) = some (s.1 (190) j)) ∧
  (∀ (s : zS) (j : Nat) (x : Int32), j < 3 → wB n (M s) 190 (nI j) x = some (M (wI s (190) j (vp_nar .boolean x)))) ∧
  (∀ s : zS, lA n (M s) 190 = some (nI 3)) ∧
  (∀ (s : zS) (j : Nat), j < 6 → gX 1 n (M s) 191 (nI j) = some (s.1 (191) j)) ∧
  (∀ (s : zS) (j : Nat) (x : Int32), j < 6 → wX 1 (fun x => x) n (M s) 191 (nI j) x = some (M (wI s (191) j x))) ∧
  (∀ s : zS, lA n (M s) 191 = some (nI 6)) ∧
  (∀ (s : zS) (j : Nat), j < 14 → gX 1 n (M s) 192 (nI j) = some (s.1 (192) j)) ∧
  (∀ (s : zS) (j : Nat) (x : Int32), j < 14 → wX 1 (fun x => x) n (M s) 192 (nI j) x = some (M (wI s (192) j x))) ∧
  (∀ s : zS, lA n (M s) 192 = some (nI 14)) ∧
  (∀ (s : zS) (j : Nat), j < 18 → gX 1 n (M s) 193 (nI j) = some (s.1 (193) j)) ∧
  (∀ (s : zS) (j : Nat) (x : Int32), j < 18 → wX 1 (fun x => x) n (M s) 193 (nI j) x = some (M (wI s (193) j x))) ∧
  (∀ s : zS, lA n (M s) 193 = some (nI 18)) ∧
  (∀ (s : zS) (j : Nat), j < 18 → gX 1 n (M s) 194 (nI j) = some (s.1 (194) j)) ∧
  (∀ (s : zS) (j : Nat) (x : Int32), j < 18 → wX 1 (fun x => x) n (M s) 194 (nI j) x = some (M (wI s (194) j x))) ∧
  (∀ s : zS, lA n (M s) 194 = some (nI 18)) ∧
  (∀ (s : zS) (j : Nat), j < 18 → gX 1 n (M s) 195 (nI j) = some (s.1 (195) j)) ∧
  (∀ (s : zS) (j : Nat) (x : Int32), j < 18 → wX 1 (fun x => x) n (M s) 195 (nI j) x = some (M (wI s (195) j x))) ∧
  (∀ s : zS, lA n (M s) 195 = some (nI 18)) ∧
  (∀ (s : zS) (j : Nat), j < 18 → gX 1 n (M s) 196 (nI j) = some (s.1 (196) j)) ∧
  (∀ (s : zS) (j : Nat) (x : Int32), j < 18 → wX 1 (fun x => x) n (M s) 196 (nI j) x = some (M (wI s (196) j x))) ∧
  (∀ s : zS, lA n (M s) 196 = some (nI 18)) ∧
  (∀ (s : zS) (j : Nat), j < 18 → gX 1 n (M s) 197 (nI j) = some (s.1 (197) j)) ∧
  (∀ (s : zS) (j : Nat) (x : Int32), j < 18 → wX 1 (fun x => x) n (M s) 197 (nI j) x = some (M (wI s (197) j x))) ∧
  (∀ s : zS, lA n (M s) 197 = some (nI 18)) ∧
  (∀ (s : zS) (j : Nat), j < 18 → gX 1 n (M s) 198 (nI j) = some (s.1 (198) j)) ∧
  (∀ (s : zS) (j : Nat) (x : Int32), j < 18 → wX 1 (fun x => x) n (M s) 198 (nI j) x = some (M (wI s (198) j x))) ∧
  (∀ s : zS, lA n (M s) 198 = some (nI 18)) ∧
  (∀ (s : zS) (j : Nat), j < 8 → gX 1 n (M s) 199 (nI j) = some (s.1 (199) j)) ∧
  (∀ (s : zS) (j : Nat) (x : Int32), j < 8 → wX 1 (fun x => x) n (M s) 199 (nI j) x = some (M (wI s (199) j x))) ∧
  (∀ s : zS, lA n (M s) 199 = some (nI 8)) ∧
  (∀ (s : zS) (j : Nat), j < 8 → gX 1 n (M s) 200 (nI j) = some (s.1 (200) j)) ∧
  (∀ (s : zS) (j : Nat) (x : Int32), j < 8 → wX 1 (fun x => x) n (M s) 200 (nI j) x = some (M (wI s (200) j x))) ∧
  (∀ s : zS, lA n (M s) 200 = some (nI 8)) ∧
  (∀ (s : zS) (j : Nat), j < 8 → gX 1 n (M s) 201 (nI j) = some (s.1 (201) j)) ∧
  (∀ (s : zS) (j : Nat) (x : Int32), j < 8 → wX 1 (fun x => x) n (M s) 201 (nI j) x = some (M (wI s (201) j x))) ∧
  (∀ s : zS, lA n (M s) 201 = some (nI 8)) ∧
  (∀ (s : zS) (j : Nat), j < 8 → gX 1 n (M s) 202 (nI j) = some (s.1 (202) j)) ∧
  (∀ (s : zS) (j : Nat) (x : Int32), j < 8 → wX 1 (fun x => x) n (M s) 202 (nI j) x = some (M (wI s (202) j x))) ∧
  (∀ s : zS, lA n (M s) 202 = some (nI 8)) ∧
  (∀ (s : zS) (j : Nat), j < 24 → gX 1 n (M s) 203 (nI j) = some (s.1 (203) j)) ∧
  (∀ (s : zS) (j : Nat) (x : Int32), j < 24 → wX 1 (fun x => x) n (M s) 203 (nI j) x = some (M (wI s (203) j x))) ∧
  (∀ s : zS, lA n (M s) 203 = some (nI 24)) ∧
  (∀ (s : zS) (j : Nat), j < 24 → gX 1 n (M s) 204 (nI j) = some (s.1 (204) j)) ∧
  (∀ (s : zS) (j : Nat) (x : Int32), j < 24 → wX 1 (fun x => x) n (M s) 204 (nI j) x = some (M (wI s (204) j x))) ∧
  (∀ s : zS, lA n (M s) 204 = some (nI 24)) ∧
  (∀ (s : zS) (j : Nat), j < 24 → gX 1 n (M s) 205 (nI j) = some (s.1 (205) j)) ∧
  (∀ (s : zS) (j : Nat) (x : Int32), j < 24 → wX 1 (fun x => x) n (M s) 205 (nI j) x = some (M (wI s (205) j x))) ∧
  (∀ s : zS, lA n (M s) 205 = some (nI 24)) ∧
  (∀ (s : zS) (j : Nat), j < 12 → gX 1 n (M s) 206 (nI j) = some (s.1 (206) j)) ∧
  (∀ (s : zS) (j : Nat) (x : Int32), j < 12 → wX 1 (fun x => x) n (M s) 206 (nI j) x = some (M (wI s (206) j x))) ∧
  (∀ s : zS, lA n (M s) 206 = some (nI 12)) ∧
  (∀ (s : zS) (j : Nat), j < 12 → gX 1 n (M s) 207 (nI j) = some (s.1 (207) j)) ∧
  (∀ (s : zS) (j : Nat) (x : Int32), j < 12 → wX 1 (fun x => x) n (M s) 207 (nI j) x = some (M (wI s (207) j x))) ∧
  (∀ s : zS, lA n (M s) 207 = some (nI 12)) ∧
  (∀ (s : zS) (j : Nat), j < 12 → gX 1 n (M s) 208 (nI j) = some (s.1 (208) j)) ∧
  (∀ (s : zS) (j : Nat) (x : Int32), j < 12 → wX 1 (fun x => x) n (M s) 208 (nI j) x = some (M (wI s (208) j x))) ∧
  (∀ s : zS, lA n (M s) 208 = some (nI 12)) ∧
  (∀ (s : zS) (j : Nat), j < 6 → gB n (M s) 209 (nI j) = some (s.1 (209) j)) ∧
  (∀ (s : zS) (j : Nat) (x : Int32), j < 6 → wB n (M s) 209 (nI j) x = some (M (wI s (209) j (vp_nar .boolean x)))) ∧
  (∀ s : zS, lA n (M s) 209 = some (nI 6)) ∧
  (∀ (s : zS) (j : Nat), j < 6 → gX 1 n (M s) 210 (nI j) = some (s.1 (210) j)) ∧
  (∀ (s : zS) (j : Nat) (x : Int32), j < 6 → wX 1 (fun x => x) n (M s) 210 (nI j) x = some (M (wI s (210) j x))) ∧
  (∀ s : zS, lA n (M s) 210 = some (nI 6)) ∧
  (∀ (s : zS) (j : Nat), j < 6 → gX 1 n (M s) 211 (nI j) = some (s.1 (211) j)) ∧
  (∀ (s : zS) (j : Nat) (x : Int32), j < 6 → wX 1 (fun x => x) n (M s) 211 (nI j) x = some (M (wI s (211) j x))) ∧
  (∀ s : zS, lA n (M s) 211 = some (nI 6))
def bMmb (M : zS → ai_H) (n : Nat) : Prop := (∀ (s : zS) (j : Nat), j < 128 → gX 1 n (M s) 212 (nI j) = some (s.1 (212) j)) ∧
  (∀ (s : zS) (j : Nat) (x : Int32), j < 128 → wX 1 (fun x => x) n (M s) 212 (nI j) x = some (M (wI s (212) j x))) ∧
  (∀ s : zS, lA n (M s) 212 = some (nI 128)) ∧
  (∀ (s : zS) (j : Nat), j < 128 → gX 1 n (M s) 213 (nI j) = some (s.1 (213) j)) ∧
  (∀ (s : zS) (j : Nat) (x : Int32), j < 128 → wX 1 (fun x => x) n (M s) 213 (nI j) x = some (M (wI s (213) j x))) ∧
  (∀ s : zS, lA n (M s) 213 = some (nI 128)) ∧
  (∀ (s : zS) (j : Nat), j < 128 → gX 1 n (M s) 214 (nI j) = some (s.1 (214) j)) ∧
  (∀ (s : zS) (j : Nat) (x : Int32), j < 128 → wX 1 (fun x => x) n (M s) 214 (nI j) x = some (M (wI s (214) j x))) ∧
  (∀ s : zS, lA n (M s) 214 = some (nI 128)) ∧
  (∀ (s : zS) (j : Nat), j < 96 → gX 1 n (M s) 215 (nI j) = some (s.1 (215) j)) ∧
  (∀ (s : zS) (j : Nat) (x : Int32), j < 96 → wX 1 (fun x => x) n (M s) 215 (nI j) x = some (M (wI s (215) j x))) ∧
  (∀ s : zS, lA n (M s) 215 = some (nI 96)) ∧
  (∀ (s : zS) (j : Nat), j < 96 → gX 1 n (M s) 216 (nI j) = some (s.1 (216) j)) ∧
  (∀ (s : zS) (j : Nat) (x : Int32), j < 96 → wX 1 (fun x => x) n (M s) 216 (nI j) x = some (M (wI s (216) j x))) ∧
  (∀ s : zS, lA n (M s) 216 = some (nI 96)) ∧
  (∀ (s : zS) (j : Nat), j < 7 → gJ n (M s) 217 (nI j) = some (s.2.1 (217) j)) ∧
  (∀ (s : zS) (j : Nat) (x : Int64), j < 7 → wJ n (M s) 217 (nI j) x = some (M (wL s (217) j x))) ∧
  (∀ (s : zS) (j : Nat), j < 64 → gJ n (M s) 218 (nI j) = some (s.2.1 (218) j)) ∧
  (∀ (s : zS) (j : Nat) (x : Int64), j < 64 → wJ n (M s) 218 (nI j) x = some (M (wL s (218) j x))) ∧
  (∀ (s : zS) (j : Nat), j < 8 → gX 1 n (M s) 219 (nI j) = some (s.1 (219) j)) ∧
  (∀ (s : zS) (j : Nat) (x : Int32), j < 8 → wX 1 (fun x => x) n (M s) 219 (nI j) x = some (M (wI s (219) j x))) ∧
  (∀ s : zS, lA n (M s) 219 = some (nI 8)) ∧
  (∀ (s : zS) (j : Nat), j < 8 → gX 1 n (M s) 220 (nI j) = some (s.1 (220) j)) ∧
  (∀ (s : zS) (j : Nat) (x : Int32), j < 8 → wX 1 (fun x => x) n (M s) 220 (nI j) x = some (M (wI s (220) j x))) ∧
  (∀ s : zS, lA n (M s) 220 = some (nI 8)) ∧
  (∀ (s : zS) (j : Nat), j < 18 → gX 1 n (M s) 221 (nI j) = some (s.1 (221) j)) ∧
  (∀ (s : zS) (j : Nat) (x : Int32), j < 18 → wX 1 (fun x => x) n (M s) 221 (nI j) x = some (M (wI s (221) j x))) ∧
  (∀ s : zS, lA n (M s) 221 = some (nI 18)) ∧
  (∀ (s : zS) (j : Nat), j < 18 → gB n (M s) 222 (nI j) = some (s.1 (222) j)) ∧
  (∀ (s : zS) (j : Nat) (x : Int32), j < 18 → wB n (M s) 222 (nI j) x = some (M (wI s (222) j (vp_nar .boolean x)))) ∧
  (∀ s : zS, lA n (M s) 222 = some (nI 18)) ∧
  (∀ (s : zS) (j : Nat), j < 18 → gX 1 n (M s) 223 (nI j) = some (s.1 (223) j)) ∧
  (∀ (s : zS) (j : Nat) (x : Int32), j < 18 → wX 1 (fun x => x) n (M s) 223 (nI j) x = some (M (wI s (223) j x))) ∧
  (∀ s : zS, lA n (M s) 223 = some (nI 18)) ∧
  (∀ (s : zS) (j : Nat), j < 2 → gX 1 n (M s) 224 (nI j) = some (s.1 (224) j)) ∧
  (∀ (s : zS) (j : Nat) (x : Int32), j < 2 → wX 1 (fun x => x) n (M s) 224 (nI j) x = some (M (wI s (224) j x))) ∧
  (∀ s : zS, lA n (M s) 224 = some (nI 2)) ∧
  (∀ (s : zS) (j : Nat), j < 2 → gX 1 n (M s) 225 (nI j) = some (s.1 (225) j)) ∧
  (∀ (s : zS) (j : Nat) (x : Int32), j < 2 → wX 1 (fun x => x) n (M s) 225 (nI j) x = some (M (wI s (225) j x))) ∧
  (∀ s : zS, lA n (M s) 225 = some (nI 2))
def bMmc (M : zS → ai_H) (n : Nat) : Prop := (∀ (s : zS) (j : Nat), j < 2 → gX 1 n (M s) 226 (nI j) = some (s.1 (226) j)) ∧
  (∀ (s : zS) (j : Nat) (x : Int32), j < 2 → wX 1 (fun x => x) n (M s) 226 (nI j) x = some (M (wI s (226) j x))) ∧
  (∀ s : zS, lA n (M s) 226 = some (nI 2)) ∧
  (∀ (s : zS) (j : Nat), j < 3584 → gX 1 n (M s) 227 (nI j) = some (s.1 (227) j)) ∧
  (∀ (s : zS) (j : Nat) (x : Int32), j < 3584 → wX 1 (fun x => x) n (M s) 227 (nI j) x = some (M (wI s (227) j x))) ∧
  (∀ s : zS, lA n (M s) 227 = some (nI 3584)) ∧
  (∀ (s : zS) (j : Nat), j < 3584 → gB n (M s) 228 (nI j) = some (s.1 (228) j)) ∧
  (∀ (s : zS) (j : Nat) (x : Int32), j < 3584 → wB n (M s) 228 (nI j) x = some (M (wI s (228) j (vp_nar .boolean x)))) ∧
  (∀ s : zS, lA n (M s) 228 = some (nI 3584)) ∧
  (∀ (s : zS) (j : Nat), j < 7 → gX 1 n (M s) 229 (nI j) = some (s.1 (229) j)) ∧
  (∀ (s : zS) (j : Nat) (x : Int32), j < 7 → wX 1 (fun x => x) n (M s) 229 (nI j) x = some (M (wI s (229) j x))) ∧
  (∀ s : zS, lA n (M s) 229 = some (nI 7)) ∧
  (∀ (s : zS) (j : Nat), j < 4 → gX 1 n (M s) 230 (nI j) = some (s.1 (230) j)) ∧
  (∀ (s : zS) (j : Nat) (x : Int32), j < 4 → wX 1 (fun x => x) n (M s) 230 (nI j) x = some (M (wI s (230) j x))) ∧
  (∀ s : zS, lA n (M s) 230 = some (nI 4)) ∧
  (∀ (s : zS) (j : Nat), j < 9 → gX 1 n (M s) 231 (nI j) = some (s.1 (231) j)) ∧
  (∀ (s : zS) (j : Nat) (x : Int32), j < 9 → wX 1 (fun x => x) n (M s) 231 (nI j) x = some (M (wI s (231) j x))) ∧
  (∀ s : zS, lA n (M s) 231 = some (nI 9)) ∧
  (∀ (s : zS) (j : Nat), j < 19683 → gB n (M s) 232 (nI j) = some (s.1 (232) j)) ∧
  (∀ (s : zS) (j : Nat) (x : Int32), j < 19683 → wB n (M s) 232 (nI j) x = some (M (wI s (232) j (vp_nar .boolean x)))) ∧
  (∀ s : zS, lA n (M s) 232 = some (nI 19683)) ∧
  (∀ (s : zS) (j : Nat), j < 96 → gX 1 n (M s) 233 (nI j) = some (s.1 (233) j)) ∧
  (∀ (s : zS) (j : Nat) (x : Int32), j < 96 → wX 1 (fun x => x) n (M s) 233 (nI j) x = some (M (wI s (233) j x))) ∧
  (∀ s : zS, lA n (M s) 233 = some (nI 96)) ∧
  (∀ (s : zS) (j : Nat), j < 24 → gB n (M s) 234 (nI j) = some (s.1 (234) j)) ∧
  (∀ (s : zS) (j : Nat) (x : Int32), j < 24 → wB n (M s) 234 (nI j) x = some (M (wI s (234) j (vp_nar .boolean x)))) ∧
  (∀ s : zS, lA n (M s) 234 = some (nI 24)) ∧
  (∀ (s : zS) (j : Nat), j < 7 → gX 1 n (M s) 235 (nI j) = some (s.1 (235) j)) ∧
  (∀ (s : zS) (j : Nat) (x : Int32), j < 7 → wX 1 (fun x => x) n (M s) 235 (nI j) x = some (M (wI s (235) j x))) ∧
  (∀ s : zS, lA n (M s) 235 = some (nI 7)) ∧
  (∀ (s : zS) (j : Nat), j < 720 → gX 1 n (M s) 236 (nI j) = some (s.1 (236) j)) ∧
  (∀ (s : zS) (j : Nat) (x : Int32), j < 720 → wX 1 (fun x => x) n (M s) 236 (nI j) x = some (M (wI s (236) j x))) ∧
  (∀ s : zS, lA n (M s) 236 = some (nI 720)) ∧
  (∀ (s : zS) (j : Nat), j < 36 → gX 1 n (M s) 237 (nI j) = some (s.1 (237) j)) ∧
  (∀ (s : zS) (j : Nat) (x : Int32), j < 36 → wX 1 (fun x => x) n (M s) 237 (nI j) x = some (M (wI s (237) j x))) ∧
  (∀ s : zS, lA n (M s) 237 = some (nI 36))
def bMmz (M : zS → ai_H) (n : Nat) : Prop := (∀ (s : zS) (b : Nat), b ≤ 1 → sF n (M s) 187 11 55 .boolean (.int (nI b)) = some (M (wI s 187 55 (nI b)))) ∧
  (∀ (s : zS) (b : Nat), b ≤ 1 → sF n (M s) 187 11 56 .boolean (.int (nI b)) = some (M (wI s 187 56 (nI b)))) ∧
  (∀ (s : zS) (b : Nat), b ≤ 1 → sF n (M s) 187 11 59 .boolean (.int (nI b)) = some (M (wI s 187 59 (nI b)))) ∧
  (∀ (s : zS) (b : Nat), b ≤ 1 → sF n (M s) 187 11 69 .boolean (.int (nI b)) = some (M (wI s 187 69 (nI b)))) ∧
  (∀ (s : zS) (b : Nat), b ≤ 1 → sF n (M s) 187 11 70 .boolean (.int (nI b)) = some (M (wI s 187 70 (nI b)))) ∧
  (∀ (s : zS) (b : Nat), b ≤ 1 → sF n (M s) 187 11 71 .boolean (.int (nI b)) = some (M (wI s 187 71 (nI b)))) ∧
  (∀ (s : zS) (b : Nat), b ≤ 1 → sF n (M s) 187 11 72 .boolean (.int (nI b)) = some (M (wI s 187 72 (nI b)))) ∧
  (∀ (s : zS) (b : Nat), b ≤ 1 → sF n (M s) 187 11 73 .boolean (.int (nI b)) = some (M (wI s 187 73 (nI b)))) ∧
  (∀ (s : zS) (b : Nat), b ≤ 1 → sF n (M s) 187 11 91 .boolean (.int (nI b)) = some (M (wI s 187 91 (nI b))))
def bM (M : zS → ai_H) (n : Nat) : Prop := bMm M n ∧ bMma M n ∧ bMmb M n ∧ bMmc M n ∧ bMmz M n
theorem bM_mk {n : Nat} (hn : 239 ≤ n) : bM mk n := ⟨B_m hn, B_ma hn, B_mb hn, B_mc hn, B_mz hn⟩
section Bm0
variable {n t o p w j b : Nat} {s : zS} {T : zT} {O : zO} {S : zD} {A : zA} {M : zS → ai_H}
theorem m_firstM (hM : bM M n) (hW : WT T) (hT : mTd s.1 T) (hb : b ≤ 1) : ∃ s' : zS, fX11_atFirst n (M s) 187 (nI b) = some ((), M s') ∧ s'.2 = s.2 ∧ (∀ a j, ¬ hfM b a j → s'.1 a j = s.1 a j) ∧ mS0 s' b T := by
  obtain ⟨h1m, h2m, h3m, h4m, h5m⟩ := hM
  unfold bMm at h1m
  unfold bMma at h2m
  unfold bMmb at h3m
  unfold bMmc at h4m
  unfold bMmz at h5m
  have h0 := hW.1
  unfold fX11_atFirst
  simp only [h1m, Option.bind_some, LIT]
  refine lp_up (F := fun f (s1 : zS) i => fX11_atFirst_2 n f (M s1) 187 (nI b) (nI i)) (N := 4) (P := fun i s1 => s1.2 = s.2 ∧ (∀ a j, ¬ hfM b a j → s1.1 a j = s.1 a j) ∧ ∀ w, w < i → s1.1 219 (4 * b + w) = s.1 200 w ∧ s1.1 220 (4 * b + w) = s.1 202 w) (Q := fun r => ∃ s' : zS, r = some ((), M s') ∧ s'.2 = s.2 ∧ (∀ a j, ¬ hfM b a j → s'.1 a j = s.1 a j) ∧ mS0 s' b T) ?_ ?_ 4 bi_K s 0 (by omega) (by unfold bi_K; omega) ⟨rfl, fun _ _ _ => rfl, fun j h => absurd h (Nat.not_lt_zero j)⟩
  · rintro f s1 i hi ⟨g1, g2, g3⟩
    left
    have e1 : s1.1 200 i = s.1 200 i := g2 200 i (by unfold hfM; omega)
    have e2 : s1.1 202 i = s.1 202 i := g2 202 i (by unfold hfM; omega)
    refine ⟨wI (wI s1 219 (4 * b + i) (s.1 200 i)) 220 (4 * b + i) (s.1 202 i), ?_, g1, fun a j h => ?_, fun w hw => ?_⟩
    · show fX11_atFirst_2b n (fX11_atFirst_2 n f) (M s1) 187 (nI b) (nI i) = _
      unfold fX11_atFirst_2b
      simp (disch := first | omega | assumption | (simp only [wL_1, wL_22, wI_2, wA_2, wQ_1, wQ_21] <;> first | assumption | omega)) only [LIT, LITm, nI_add, n_mul, fa_or, n_31m, n_shl0, n_le, n_lt, n_eq, Option.bind_some, h1m, h2m, h3m, h4m, wI_ne, e1, e2, show ¬ 4 ≤ i by omega, ↓reduceIte]
    · rw [wI_g, if_neg (fun q => h (by unfold hfM; omega)), wI_g, if_neg (fun q => h (by unfold hfM; omega))]
      exact g2 a j h
    · rw [wI_ne (show (219 : Nat) ≠ 220 by omega), wI_at, wI_at, wI_ne (show (220 : Nat) ≠ 219 by omega)]
      by_cases q : w = i
      · rw [q, upd_at, upd_at]
        exact ⟨rfl, rfl⟩
      · rw [upd_ne (by omega), upd_ne (by omega)]
        exact g3 w (by omega)
  · rintro f s1 ⟨g1, g2, g3⟩
    have e0 : fX11_atFirst_2 n (f + 1) (M s1) 187 (nI b) (nI 4) = fX11_atFirst_47 n bi_K (M s1) 187 (nI b) (nI 0) := by
      show fX11_atFirst_2b n (fX11_atFirst_2 n f) (M s1) 187 (nI b) (nI 4) = _
      unfold fX11_atFirst_2b
      simp (disch := first | omega | assumption | (simp only [wL_1, wL_22, wI_2, wA_2, wQ_1, wQ_21] <;> first | assumption | omega)) only [LIT, LITm, nI_add, n_mul, fa_or, n_31m, n_shl0, n_le, n_lt, n_eq, Option.bind_some, Nat.le_refl, ↓reduceIte]
    show ∃ s' : zS, fX11_atFirst_2 n (f + 1) (M s1) 187 (nI b) (nI 4) = some ((), M s') ∧ _
    rw [e0]
    refine lp_up (F := fun f (s2 : zS) i => fX11_atFirst_47 n f (M s2) 187 (nI b) (nI i)) (N := 9) (P := fun i s2 => s2.2 = s.2 ∧ (∀ a j, ¬ hfM b a j → s2.1 a j = s.1 a j) ∧ (s2.1 219 = s1.1 219 ∧ s2.1 220 = s1.1 220) ∧ ∀ p, p < i → s2.1 221 (9 * b + p) = s.1 198 p ∧ s2.1 222 (9 * b + p) = nI 1 ∧ s2.1 223 (9 * b + p) = nI 0) (Q := fun r => ∃ s' : zS, r = some ((), M s') ∧ s'.2 = s.2 ∧ (∀ a j, ¬ hfM b a j → s'.1 a j = s.1 a j) ∧ mS0 s' b T) ?_ ?_ 9 bi_K s1 0 (by omega) (by unfold bi_K; omega) ⟨g1, g2, ⟨rfl, rfl⟩, fun j h => absurd h (Nat.not_lt_zero j)⟩
    · rintro f s2 i hi ⟨q1, q2, q3, q4⟩
      left
      have e1 : s2.1 198 i = s.1 198 i := q2 198 i (by unfold hfM; omega)
      refine ⟨wI (wI (wI s2 221 (9 * b + i) (s.1 198 i)) 222 (9 * b + i) (nI 1)) 223 (9 * b + i) (nI 0), ?_, q1, fun a j h => ?_, ⟨?_, ?_⟩, fun p hp => ?_⟩
      · show fX11_atFirst_47b n (fX11_atFirst_47 n f) (M s2) 187 (nI b) (nI i) = _
        unfold fX11_atFirst_47b
        simp (disch := first | omega | assumption | (simp only [wL_1, wL_22, wI_2, wA_2, wQ_1, wQ_21] <;> first | assumption | omega)) only [LIT, LITm, nI_add, n_mul, fa_or, n_31m, n_shl0, n_le, n_lt, n_eq, Option.bind_some, h1m, h2m, h3m, h4m, e1, nar_b (show 1 ≤ 1 by omega), show ¬ 9 ≤ i by omega, ↓reduceIte]
      · rw [wI_g, if_neg (fun q => h (by unfold hfM; omega)), wI_g, if_neg (fun q => h (by unfold hfM; omega)), wI_g, if_neg (fun q => h (by unfold hfM; omega))]
        exact q2 a j h
      · simp (disch := omega) only [wI_ne]; exact q3.1
      · simp (disch := omega) only [wI_ne]; exact q3.2
      · by_cases q : p = i
        · rw [q]
          simp (disch := omega) only [wI_at, wI_ne, upd_at, and_self]
        · simp (disch := omega) only [wI_at, wI_ne, upd_ne]
          exact q4 p (by omega)
    · rintro f s2 ⟨q1, q2, q3, q4⟩
      refine ⟨wI (wI (wI s2 224 b (nI 0)) 225 b (nI 0)) 226 b (nI 0), ?_, q1, fun a j h => ?_, ⟨⟨?_, ?_, ?_⟩, fun p hp => ?_, fun w hw => ?_⟩⟩
      · show fX11_atFirst_47b n (fX11_atFirst_47 n f) (M s2) 187 (nI b) (nI 9) = _
        unfold fX11_atFirst_47b
        simp (disch := first | omega | assumption | (simp only [wL_1, wL_22, wI_2, wA_2, wQ_1, wQ_21] <;> first | assumption | omega)) only [LIT, LITm, nI_add, n_mul, fa_or, n_31m, n_shl0, n_le, n_lt, n_eq, Option.bind_some, h1m, h3m, h4m, Nat.le_refl, ↓reduceIte]
      · rw [wI_g, if_neg (fun q => h (by unfold hfM; omega)), wI_g, if_neg (fun q => h (by unfold hfM; omega)), wI_g, if_neg (fun q => h (by unfold hfM; omega))]
        exact q2 a j h
      · simp (disch := omega) only [wI_at, wI_ne, upd_at]
      · simp (disch := omega) only [wI_at, wI_ne, upd_at]
      · simp (disch := omega) only [wI_at, wI_ne, upd_at]
      · simp (disch := omega) only [wI_ne]
        obtain ⟨a1, a2, a3⟩ := q4 p (by omega)
        exact ⟨by rw [a1]; exact (hT.2.2.2.1 p hp).2.2.2.2.2, a2, a3⟩
      · simp (disch := omega) only [wI_ne]
        rw [q3.1, q3.2]
        obtain ⟨a1, a2⟩ := g3 w (by omega)
        have := hT.2.2.2.2.1 w hw
        exact ⟨by rw [a1]; exact this.2.1, by rw [a2]; exact this.2.2.2⟩
theorem m_plainTM (hM : bM M n) (hW : WT T) : ∃ s' : zS, fX11_plainTried n (M s) 187 = some ((), M s') ∧ s'.2 = s.2 ∧ (∀ a, a ≠ 187 → s'.1 a = s.1 a) ∧ mOd s'.1 T (O0 T 1) ∧ s'.1 187 72 = nI 0 ∧ s'.1 187 75 = m1 ∧ ∀ j, (j < 69 ∨ 76 < j) → s'.1 187 j = s.1 187 j := by
  obtain ⟨h1m, h2m, h3m, h4m, h5m⟩ := hM
  unfold bMm at h1m
  unfold bMmz at h5m
  refine ⟨wI (wI (wI (wI (wI (wI (wI (wI s 187 69 (nI 0)) 187 70 (nI 0)) 187 71 (nI 0)) 187 72 (nI 0)) 187 73 (nI 0)) 187 74 m1) 187 75 m1) 187 76 (nI 0), ?_, rfl, fun a ha => ?_, ⟨⟨?_, ?_, ?_, ?_⟩, Or.inr ⟨?_, rfl, rfl⟩, Or.inr ⟨?_, fun w hw => ⟨fun h => ?_, fun _ => rfl⟩⟩⟩, ?_, ?_, fun j hj => ?_⟩
  · unfold fX11_plainTried
    simp (disch := first | omega | assumption | (simp only [wL_1, wL_22, wI_2, wA_2, wQ_1, wQ_21] <;> first | assumption | omega)) only [LIT, LITm, nI_add, n_mul, fa_or, n_31m, n_shl0, n_le, n_lt, n_eq, Option.bind_some, h1m, h5m]
  · simp (disch := omega) only [wI_ne]
  · simp (disch := omega) only [wI_at, upd_at, upd_ne]; rfl
  · simp (disch := omega) only [wI_at, upd_at, upd_ne]; rfl
  · simp (disch := omega) only [wI_at, upd_at, upd_ne]; rfl
  · simp (disch := omega) only [wI_at, upd_at, upd_ne]; rfl
  · simp (disch := omega) only [wI_at, upd_at, upd_ne]
  · simp (disch := omega) only [wI_at, upd_at, upd_ne]
  · simp (disch := omega) only [wI_at, upd_at, upd_ne] at h
    rw [n_m1 (by have := hW.1; omega)] at h
    exact h.elim
  · simp (disch := omega) only [wI_at, upd_at, upd_ne]
  · simp (disch := omega) only [wI_at, upd_at, upd_ne]
  · simp (disch := omega) only [wI_at, upd_ne]
end Bm0
