/-! ===== all methods together ===== -/
def ai_lk (t : List (Nat × ai_Op)) (pc : Nat) : Option ai_Op := (t.find? (fun q => q.1 == pc)).map (fun q => q.2)
theorem ai_lk_mem {t : List (Nat × ai_Op)} {pc : Nat} {f : ai_Op} (h : ai_lk t pc = some f) : (pc, f) ∈ t := by
  unfold ai_lk at h
  cases hf : t.find? (fun q => q.1 == pc) with
  | none => rw [hf] at h; cases h
  | some q =>
    rw [hf] at h
    cases h
    have h1 := List.find?_some hf
    have h3 : q.1 = pc := by simpa using h1
    subst h3
    exact List.mem_of_find?_eq_some hf
theorem ai_tb {Q : Nat → ai_Op → Prop} {t : List (Nat × ai_Op)} (h : ∀ q ∈ t, Q q.1 q.2) : ∀ pc f, ai_lk t pc = some f → Q pc f := fun pc f hf => h (pc, f) (ai_lk_mem hf)
def ai_T : Nat → List (Nat × ai_Op) := fun y => match y with
  | 0 => tX0_init
  | 1 => tX0_begin
  | 2 => tX0_tryOtherwise
  | 3 => tX0_pass
  | 4 => tX0_isSnowing
  | 5 => tX0_goWalks
  | 6 => tX0_growOlder
  | 7 => tX0_lookAt
  | 8 => tX0_costIfHeCan
  | 9 => tX0_goWhole
  | 10 => tX1_init
  | 11 => tX1_begin
  | 12 => tX1_winner
  | 13 => tX1_firstMove
  | 14 => tX1_winnerBehind
  | 15 => tX1_winnerFrom
  | 16 => tX2_init
  | 17 => tX2_empty
  | 18 => tX2_put
  | 19 => tX2_isTold
  | 20 => tX2_value
  | 21 => tX2_join
  | 22 => tX3_init
  | 23 => tX3_readText
  | 24 => tX3_fail
  | 25 => tX3_expect
  | 26 => tX3_readLine
  | 27 => tX3_beginRow
  | 28 => tX3_beginOnce
  | 29 => tX3_readPath
  | 30 => tX3_readWalker
  | 31 => tX3_readWalk
  | 32 => tX3_readBull
  | 33 => tX3_readNewName
  | 34 => tX3_readTold
  | 35 => tX3_readNumber
  | 36 => tX3_readLaw
  | 37 => tX3_readLevel
  | 38 => tX3_readNots
  | 39 => tX3_readPart
  | 40 => tX3_takeKnot
  | 41 => tX3_levelOf
  | 42 => tX4_init
  | 43 => tX4_empty
  | 44 => tX4_knownSize
  | 45 => tX4_add
  | 46 => tX4_sift
  | 47 => tX4_isSo
  | 48 => tX5_init
  | 49 => tX5_begin
  | 50 => tX5_copyFrom
  | 51 => tX5_isKept
  | 52 => tX6_init
  | 53 => tX6_isFull
  | 54 => tX6_find
  | 55 => tX6_cell
  | 56 => tX6_put
  | 57 => tX6_putName
  | 58 => tX6_endRow
  | 60 => tX7_isName
  | 61 => tX7_begin
  | 62 => tX7_advance
  | 64 => tX7_readWord
  | 65 => tX7_readDigits
  | 66 => tX7_readSign
  | 67 => tX7_readComparison
  | 68 => tX8_init
  | 69 => tX8_empty
  | 70 => tX8_ends
  | 71 => tX8_isBullOn
  | 72 => tX9_init
  | 73 => tX9_openFor
  | 74 => tX9_spread
  | 75 => tX9_sets
  | 76 => tX9_pairs
  | 77 => tX9_blindEnds
  | 78 => tX9_endsOfAll
  | 79 => tX9_fewestWatched
  | 80 => tX9_isWatched
  | 81 => tX9_leastLength
  | 82 => tX9_shorten
  | 83 => tX9_leastRound
  | 84 => tX9_goOn
  | 85 => tX9_lessen
  | 86 => tX9_matchAll
  | 87 => tX9_matchFrom
  | 88 => tX10_init
  | 89 => tX10_feed
  | 90 => tX10_putFour
  | 91 => tX10_text
  | 92 => tX10_fault
  | 93 => tX10_named
  | 94 => tX10_isPlace
  | 95 => tX10_isPath
  | 96 => tX10_isWalker
  | 97 => tX10_isWithin
  | 98 => tX10_path
  | 99 => tX10_walker
  | 100 => tX10_pathsHeCanGo
  | 101 => tX10_law
  | 102 => tX10_count
  | 103 => tX10_walk
  | 104 => tX10_mow
  | 105 => tX10_carry
  | 106 => tX10_remember
  | 107 => tX10_undo
  | 108 => tX10_keep
  | 109 => tX10_back
  | 110 => tX10_go
  | 111 => tX10_beginAhead
  | 112 => tX10_ahead
  | 113 => tX10_isAsked
  | 114 => tX10_lapse
  | 115 => tX10_tried
  | 116 => tX10_chance
  | 117 => tX10_reach
  | 118 => tX10_way
  | 119 => tX10_round
  | 120 => tX10_needed
  | 121 => tX10_blind
  | 122 => tX10_watch
  | 123 => tX10_match
  | 124 => tX10_game
  | 125 => tX10_isPair
  | 126 => tX10_rests
  | 127 => tX10_rest
  | 128 => tX10_isRest
  | 129 => tX10_share
  | 130 => tX10_tries
  | 131 => tX10_clear
  | 132 => tX10_commonDivisor
  | 133 => tX10_see
  | 134 => tX10_strike
  | 135 => tX10_known
  | 136 => tX10_legs
  | 137 => tX10_sit
  | 138 => tX10_leftAtWorst
  | 139 => tX10_placeIfLegs
  | 140 => tX11_init
  | 141 => tX11_thrown
  | 142 => tX11_feed
  | 143 => tX11_isIn
  | 144 => tX11_isOf
  | 145 => tX11_wrong
  | 146 => tX11_wordAt
  | 147 => tX11_isSmall
  | 148 => tX11_isDigit
  | 149 => tX11_token
  | 150 => tX11_signToken
  | 151 => tX11_packed
  | 152 => tX11_isKey
  | 153 => tX11_isSign
  | 154 => tX11_number
  | 155 => tX11_plain
  | 156 => tX11_copies
  | 157 => tX11_keepText
  | 158 => tX11_find
  | 159 => tX11_newName
  | 160 => tX11_thereIn
  | 161 => tX11_placeLine
  | 162 => tX11_pathLine
  | 163 => tX11_walkerLine
  | 164 => tX11_walkLine
  | 165 => tX11_bullLine
  | 166 => tX11_onceLine
  | 167 => tX11_lineRead
  | 168 => tX11_text
  | 169 => tX11_fault
  | 170 => tX11_named
  | 171 => tX11_rank
  | 172 => tX11_grown
  | 173 => tX11_dropHeld
  | 174 => tX11_bind
  | 175 => tX11_isCounted
  | 176 => tX11_waitsFor
  | 177 => tX11_nameMet
  | 178 => tX11_leafRead
  | 179 => tX11_signs
  | 180 => tX11_sumRead
  | 181 => tX11_bounded
  | 182 => tX11_compares
  | 183 => tX11_times
  | 184 => tX11_valueOf
  | 185 => tX11_begin
  | 186 => tX11_atFirst
  | 187 => tX11_plainTried
  | 188 => tX11_layTried
  | 189 => tX11_isPlace
  | 190 => tX11_isPath
  | 191 => tX11_isWalker
  | 192 => tX11_legsIn
  | 193 => tX11_layPath
  | 194 => tX11_layBoth
  | 195 => tX11_lawOf
  | 196 => tX11_hasBull
  | 197 => tX11_isAtEnd
  | 198 => tX11_costOf
  | 199 => tX11_can
  | 200 => tX11_goes
  | 201 => tX11_number1
  | 202 => tX11_isSnow
  | 203 => tX11_termOf
  | 204 => tX11_dayGoes
  | 205 => tX11_goMany
  | 206 => tX11_keptMany
  | 207 => tX11_fails
  | 208 => tX11_path
  | 209 => tX11_walker
  | 210 => tX11_law
  | 211 => tX11_walk
  | 212 => tX11_mow
  | 213 => tX11_carry
  | 214 => tX11_go
  | 215 => tX11_ahead
  | 216 => tX11_lapse
  | 217 => tX11_isOpen
  | 218 => tX11_otherEnd
  | 219 => tX11_takesMore
  | 220 => tX11_settle
  | 221 => tX11_reach
  | 222 => tX11_way
  | 223 => tX11_round
  | 224 => tX11_layRoots
  | 225 => tX11_pairsOf
  | 226 => tX11_needed
  | 227 => tX11_keptAt
  | 228 => tX11_blind
  | 229 => tX11_manyOf
  | 230 => tX11_watch
  | 231 => tX11_ageBy
  | 232 => tX11_match
  | 233 => tX11_digit
  | 234 => tX11_power
  | 235 => tX11_isLed
  | 236 => tX11_winsBy
  | 237 => tX11_layGame
  | 238 => tX11_game
  | 239 => tX11_hasBy
  | 240 => tX11_restAt
  | 241 => tX11_areTwo
  | 242 => tX11_rests
  | 243 => tX11_rest
  | 244 => tX11_tries
  | 245 => tX11_clear
  | 246 => tX11_noted
  | 247 => tX11_see
  | 248 => tX11_strike
  | 249 => tX11_known
  | 250 => tX11_knownBy
  | 251 => tX11_layCounts
  | 252 => tX11_isSo
  | 253 => tX11_layLegs
  | 254 => tX11_fits
  | 255 => tX11_legsBits
  | 256 => tX11_legs
  | 257 => tX11_sit
  | 258 => tX11_chance
  | 259 => tX11_tried
  | 260 => tX11_put
  | 261 => tX11_take
  | 262 => tX11_remember
  | 263 => tX11_undo
  | 264 => tX11_keep
  | 265 => tX11_back
  | 266 => tX11_count
  | 267 => tJ6_bitCount_0f7a4
  | 268 => tJ7_fill_53178
  | 269 => tX7_init
  | 270 => tL_path
  | _ => []
def ai_P (y pc : Nat) : Option ai_Op := if y < 271 then ai_lk (ai_T y) pc else none
def ai_ML (y : Nat) : Nat := (ai_Mt y).2.2.1
/-- handlers: text() takes IllegalArgumentException; the law's path() takes the other two -/
def ai_Hd (y pc E : Nat) : Option (Option (Nat × Nat)) := match y with
  | 91 => if 20 ≤ pc ∧ pc < 36 then (if E = 0 then some (some (2, 40)) else none) else some none
  | 270 => if pc < 10 then (if E = 1 then some (some (4, 15)) else if E = 2 then some (some (4, 19)) else none) else some none
  | _ => some none
/-- no throw of its own -/
def ai_nt (f : ai_Op) : Prop := ∀ (pc : Nat) (lv : ai_L) (st : List Value) (r : ai_Hp) (E : Nat) (r' : ai_Hp), f pc lv st r ≠ some (.inr (.inr (.inr (E, r'))))
theorem ai_nt_sp {f : ai_Sp} : ai_nt (ai_sp f) := by
  intro pc lv st r E r' h
  simp only [ai_sp, Option.map_eq_some_iff] at h
  obtain ⟨x, -, hx⟩ := h
  cases hx
theorem ai_nt_c {f : ai_Op} (h : ∀ (pc : Nat) (lv : ai_L) (st : List Value) (r : ai_Hp) (x : ai_Rs), f pc lv st r = some x → ∃ q, x = .inr (.inr (.inl q))) : ai_nt f := by
  intro pc lv st r E r' hf
  obtain ⟨q, hq⟩ := h pc lv st r _ hf
  cases hq
theorem ai_nt_ri : ai_nt ai_ri := by
  intro pc lv st r E r' hf
  simp only [ai_ri] at hf
  split at hf <;> cases hf
theorem ai_nt_at {t : List (Nat × ai_Op)} (h : ∀ q ∈ t, ai_nt q.2) (pc : Nat) (lv : ai_L) (st : List Value) (r : ai_Hp) (E : Nat) (r' : ai_Hp) : (ai_lk t pc).bind (fun f => f pc lv st r) ≠ some (.inr (.inr (.inr (E, r')))) := by
  intro hb
  cases hf : ai_lk t pc with
  | none => rw [hf] at hb; cases hb
  | some f =>
    rw [hf] at hb
    exact h (pc, f) (ai_lk_mem hf) pc lv st r E r' hb
theorem nt_X10_text : ∀ q ∈ tX10_text, ai_nt q.2 := by
  intro q hq
  simp only [tX10_text, tX10_text_0, tX10_text_1, List.cons_append, List.nil_append, List.mem_cons, List.not_mem_nil, or_false] at hq
  rcases hq with rfl | rfl | rfl | rfl | rfl | rfl | rfl | rfl | rfl | rfl | rfl | rfl | rfl | rfl | rfl | rfl | rfl | rfl | rfl | rfl | rfl | rfl | rfl | rfl | rfl | rfl | rfl | rfl | rfl | rfl | rfl | rfl | rfl | rfl | rfl | rfl | rfl | rfl | rfl | rfl | rfl | rfl | rfl | rfl | rfl | rfl | rfl | rfl | rfl | rfl | rfl
  · exact ai_nt_sp
  · exact ai_nt_sp
  · exact ai_nt_sp
  · exact ai_nt_sp
  · exact ai_nt_sp
  · exact ai_nt_sp
  · exact ai_nt_sp (f := ai_pi 2 (-2))
  · exact ai_nt_ri
  · exact ai_nt_sp
  · exact ai_nt_sp (f := ai_pi 1 0)
  · exact ai_nt_sp
  · exact ai_nt_sp
  · exact ai_nt_sp
  · exact ai_nt_sp
  · exact ai_nt_sp
  · exact ai_nt_sp
  · exact ai_nt_sp
  · exact ai_nt_sp
  · exact ai_nt_c (ai_iv_only _ _ _)
  · exact ai_nt_sp (f := ai_go 42)
  · exact ai_nt_sp
  · exact ai_nt_sp (f := ai_pi 1 (-1))
  · exact ai_nt_ri
  · exact ai_nt_sp
  · exact ai_nt_sp
  · exact ai_nt_sp
  · exact ai_nt_sp
  · exact ai_nt_sp
  · exact ai_nt_sp
  · exact ai_nt_sp
  · exact ai_nt_sp
  · exact ai_nt_sp
  · exact ai_nt_sp
  · exact ai_nt_sp
  · exact ai_nt_sp
  · exact ai_nt_sp
  · exact ai_nt_sp
  · exact ai_nt_c (ai_iv_only _ _ _)
  · exact ai_nt_sp
  · exact ai_nt_sp
  · exact ai_nt_c (ai_iv_only _ _ _)
  · exact ai_nt_sp
  · exact ai_nt_sp (f := ai_pi 1 0)
  · exact ai_nt_sp
  · exact ai_nt_sp
  · exact ai_nt_sp (f := ai_pi 1 0)
  · exact ai_nt_sp
  · exact ai_nt_sp
  · exact ai_nt_sp
  · exact ai_nt_sp
  · exact ai_nt_ri
theorem nt_L_path : ∀ q ∈ tL_path, ai_nt q.2 := by
  intro q hq
  simp only [tL_path, tL_path_0, List.cons_append, List.nil_append, List.mem_cons, List.not_mem_nil, or_false] at hq
  rcases hq with rfl | rfl | rfl | rfl | rfl | rfl | rfl | rfl | rfl | rfl | rfl | rfl | rfl | rfl | rfl | rfl | rfl
  · exact ai_nt_sp
  · exact ai_nt_sp (f := ai_pi 1 0)
  · exact ai_nt_sp
  · exact ai_nt_sp
  · exact ai_nt_sp
  · exact ai_nt_c (ai_iv_only _ _ _)
  · exact ai_nt_sp
  · exact ai_nt_sp
  · exact ai_nt_sp (f := ai_go 21)
  · exact ai_nt_sp
  · exact ai_nt_sp (f := ai_pi 1 1)
  · exact ai_nt_ri
  · exact ai_nt_sp
  · exact ai_nt_sp (f := ai_pi 1 2)
  · exact ai_nt_ri
  · exact ai_nt_sp (f := ai_pi 1 0)
  · exact ai_nt_ri
set_option maxRecDepth 100000 in
theorem tH_text : (Cond.classLink "PathsKept" (87 : Nat) "java/lang/IllegalArgumentException") ∈ lw_tbl := ts_3 (ai_nth_mem 22 rfl)
set_option maxRecDepth 100000 in
theorem tH_iae : (Cond.castable "java/lang/IllegalArgumentException" "java/lang/IllegalArgumentException") ∈ lw_tbl := ts_3 (ai_nth_mem 84 rfl)
set_option maxRecDepth 100000 in
theorem tH_p1 : (Cond.classLink "PathsKeptLaw" (13 : Nat) "java/lang/IndexOutOfBoundsException") ∈ lw_tbl := ts_5 (ai_nth_mem 167 rfl)
set_option maxRecDepth 100000 in
theorem tH_p2 : (Cond.classLink "PathsKeptLaw" (15 : Nat) "java/util/NoSuchElementException") ∈ lw_tbl := ts_5 (ai_nth_mem 168 rfl)
set_option maxRecDepth 100000 in
theorem tH_iob : (Cond.castable "java/lang/IndexOutOfBoundsException" "java/lang/IndexOutOfBoundsException") ∈ lw_tbl := ts_5 (ai_nth_mem 175 rfl)
set_option maxRecDepth 100000 in
theorem tH_nse : (Cond.castable "java/util/NoSuchElementException" "java/util/NoSuchElementException") ∈ lw_tbl := ts_5 (ai_nth_mem 192 rfl)
theorem ai_text_hd {p : Program} {l : Launch} {e : Env} {R : Room} {s : State} {m : MethodId} {args : Array Value} {below : List Frame} {meth : Method} {c : Code} {D : va_G} {aC : Nat → ClassId} {A : Nat → Prop} {ad0 : Nat → Nat} {n0 : Nat} {Q : State → Prop} (X : ai_X p R s m args meth c D aC A cX10_text (yX10_text.cls, yX10_text.name) 3) (ht : c.exceptionTable.toList = tableOf [(20, 36, 39, 87)]) :
    ∀ pc E x pc', ai_Hd 91 pc E = some (some (x, pc')) → ∀ (lv : ai_L) (rest : List Value) (r : ai_Hp), ai_G p l e R s m args below meth c D aC A ad0 n0 3 Q pc' (lv.filter (fun q => !(q.1 == x) && !(q.1 + 1 == x && q.2.category == 2))) [] r → ai_GX p l e R s m args below meth c D aC A ad0 n0 3 Q pc lv rest r E := by
  intro pc E x pc' h lv rest r hG
  simp only [ai_Hd] at h
  split at h
  · rename_i hpc
    split at h
    · rename_i hE
      subst hE
      cases h
      refine ai_hd (E := 0) X [] ⟨20, 36, 39, 87⟩ [] ht (fun z hz => by cases hz) ?_ (by decide) tH_text tH_iae (by decide) ?_ lv rest r hG
      · simp only [covers, Bool.and_eq_true, decide_eq_true_eq]
        omega
      · intro H locs cells slots ls lv lv' q hl hlv kk
        exact lv_astore_n X.1 X.2.1 (show decode _ 39 = .ok (.astore_n 2, 1) by decide +kernel) rfl hl (by decide) hlv kk
    · cases h
  · cases h
theorem ai_path_hd {p : Program} {l : Launch} {e : Env} {R : Room} {s : State} {m : MethodId} {args : Array Value} {below : List Frame} {meth : Method} {c : Code} {D : va_G} {aC : Nat → ClassId} {A : Nat → Prop} {ad0 : Nat → Nat} {n0 : Nat} {Q : State → Prop} (X : ai_X p R s m args meth c D aC A cL_path (yL_path.cls, yL_path.name) 5) (ht : c.exceptionTable.toList = tableOf [(0, 10, 13, 13), (0, 10, 17, 15)]) :
    ∀ pc E x pc', ai_Hd 270 pc E = some (some (x, pc')) → ∀ (lv : ai_L) (rest : List Value) (r : ai_Hp), ai_G p l e R s m args below meth c D aC A ad0 n0 5 Q pc' (lv.filter (fun q => !(q.1 == x) && !(q.1 + 1 == x && q.2.category == 2))) [] r → ai_GX p l e R s m args below meth c D aC A ad0 n0 5 Q pc lv rest r E := by
  intro pc E x pc' h lv rest r hG
  simp only [ai_Hd] at h
  split at h
  · rename_i hpc
    split at h
    · rename_i hE
      subst hE
      cases h
      refine ai_hd (E := 1) X [] ⟨0, 10, 13, 13⟩ [⟨0, 10, 17, 15⟩] ht (fun z hz => by cases hz) ?_ (by decide) tH_p1 tH_iob (by decide) ?_ lv rest r hG
      · simp only [covers, Bool.and_eq_true, decide_eq_true_eq]
        omega
      · intro H locs cells slots ls lv lv' q hl hlv kk
        exact lv_astore X.1 X.2.1 (show decode _ 13 = .ok (.astore 4, 2) by decide +kernel) hl (by decide) hlv kk
    · split at h
      · rename_i hE
        subst hE
        cases h
        refine ai_hd (E := 2) X [⟨0, 10, 13, 13⟩] ⟨0, 10, 17, 15⟩ [] ht ?_ ?_ (by decide) tH_p2 tH_nse (by decide) ?_ lv rest r hG
        · intro z hz
          cases List.mem_singleton.mp hz
          exact Or.inr ⟨by decide, "java/lang/IndexOutOfBoundsException", X.2.2.2.1 _ tH_p1 rfl, X.2.2.2.2.2.2.2.2.2.2.2.2.2.2.2.2.1⟩
        · simp only [covers, Bool.and_eq_true, decide_eq_true_eq]
          omega
        · intro H locs cells slots ls lv lv' q hl hlv kk
          exact lv_astore X.1 X.2.1 (show decode _ 17 = .ok (.astore 4, 2) by decide +kernel) hl (by decide) hlv kk
      · cases h
  · cases h
theorem ai_text_no : ∀ pc E, ai_Hd 91 pc E = some none → ∀ x ∈ tableOf [(20, 36, 39, 87)], covers x pc = false := by
  intro pc E h x hx
  cases List.mem_singleton.mp hx
  simp only [ai_Hd] at h
  split at h
  · split at h <;> cases h
  · rename_i hpc
    simp only [covers, Bool.and_eq_false_iff, decide_eq_false_iff_not]
    omega
theorem ai_path_no : ∀ pc E, ai_Hd 270 pc E = some none → ∀ x ∈ tableOf [(0, 10, 13, 13), (0, 10, 17, 15)], covers x pc = false := by
  intro pc E h x hx
  simp only [ai_Hd] at h
  split at h
  · split at h
    · cases h
    · split at h <;> cases h
  · rename_i hpc
    rcases List.mem_cons.mp hx with rfl | hx
    · simp only [covers, Bool.and_eq_false_iff, decide_eq_false_iff_not]
      omega
    · cases List.mem_singleton.mp hx
      simp only [covers, Bool.and_eq_false_iff, decide_eq_false_iff_not]
      omega
theorem ai_lp_none {C : Nat → List Value → ai_H → Nat → ai_Ou → Prop} {K : Nat → Option ai_Op} {hd : Nat → Nat → Option (Option (Nat × Nat))} {pc : Nat} {lv : ai_L} {st : List Value} {r : ai_Hp} {o : ai_Ou} (h : K pc = none) : ∀ k, ¬ ai_lp C K hd k pc lv st r o
  | 0 => fun h => h
  | k + 1 => fun h9 => by
    unfold ai_lp at h9
    rw [h] at h9
    exact h9
theorem ai_dummy {C : Nat → List Value → ai_H → Nat → ai_Ou → Prop} {K : Nat → Option ai_Op} {hd : Nat → Nat → Option (Option (Nat × Nat))} {pc : Nat} {lv : ai_L} {st : List Value} {r : ai_Hp} {o : ai_Ou} (h : ∀ pc, K pc = none) : ∀ k, ¬ ai_lp C K hd k pc lv st r o := ai_lp_none (h pc)
theorem my_0 {l : Launch} (hl : l.stackTraces = false) : ai_My l ai_Mt ai_P ai_Hd ai_ML 0 := ai_my (nm := yX0_init) rfl (by decide +kernel) rfl rfl (ai_tb (t := tX0_init) oX0_init)
theorem my_1 {l : Launch} (hl : l.stackTraces = false) : ai_My l ai_Mt ai_P ai_Hd ai_ML 1 := ai_my (nm := yX0_begin) rfl (by decide +kernel) rfl rfl (ai_tb (t := tX0_begin) oX0_begin)
theorem my_2 {l : Launch} (hl : l.stackTraces = false) : ai_My l ai_Mt ai_P ai_Hd ai_ML 2 := ai_my (nm := yX0_tryOtherwise) rfl (by decide +kernel) rfl rfl (ai_tb (t := tX0_tryOtherwise) oX0_tryOtherwise)
theorem my_3 {l : Launch} (hl : l.stackTraces = false) : ai_My l ai_Mt ai_P ai_Hd ai_ML 3 := ai_my (nm := yX0_pass) rfl (by decide +kernel) rfl rfl (ai_tb (t := tX0_pass) oX0_pass)
theorem my_4 {l : Launch} (hl : l.stackTraces = false) : ai_My l ai_Mt ai_P ai_Hd ai_ML 4 := ai_my (nm := yX0_isSnowing) rfl (by decide +kernel) rfl rfl (ai_tb (t := tX0_isSnowing) oX0_isSnowing)
theorem my_5 {l : Launch} (hl : l.stackTraces = false) : ai_My l ai_Mt ai_P ai_Hd ai_ML 5 := ai_my (nm := yX0_goWalks) rfl (by decide +kernel) rfl rfl (ai_tb (t := tX0_goWalks) oX0_goWalks)
theorem my_6 {l : Launch} (hl : l.stackTraces = false) : ai_My l ai_Mt ai_P ai_Hd ai_ML 6 := ai_my (nm := yX0_growOlder) rfl (by decide +kernel) rfl rfl (ai_tb (t := tX0_growOlder) oX0_growOlder)
theorem my_7 {l : Launch} (hl : l.stackTraces = false) : ai_My l ai_Mt ai_P ai_Hd ai_ML 7 := ai_my (nm := yX0_lookAt) rfl (by decide +kernel) rfl rfl (ai_tb (t := tX0_lookAt) oX0_lookAt)
theorem my_8 {l : Launch} (hl : l.stackTraces = false) : ai_My l ai_Mt ai_P ai_Hd ai_ML 8 := ai_my (nm := yX0_costIfHeCan) rfl (by decide +kernel) rfl rfl (ai_tb (t := tX0_costIfHeCan) oX0_costIfHeCan)
theorem my_9 {l : Launch} (hl : l.stackTraces = false) : ai_My l ai_Mt ai_P ai_Hd ai_ML 9 := ai_my (nm := yX0_goWhole) rfl (by decide +kernel) rfl rfl (ai_tb (t := tX0_goWhole) oX0_goWhole)
theorem my_10 {l : Launch} (hl : l.stackTraces = false) : ai_My l ai_Mt ai_P ai_Hd ai_ML 10 := ai_my (nm := yX1_init) rfl (by decide +kernel) rfl rfl (ai_tb (t := tX1_init) oX1_init)
theorem my_11 {l : Launch} (hl : l.stackTraces = false) : ai_My l ai_Mt ai_P ai_Hd ai_ML 11 := ai_my (nm := yX1_begin) rfl (by decide +kernel) rfl rfl (ai_tb (t := tX1_begin) oX1_begin)
theorem my_12 {l : Launch} (hl : l.stackTraces = false) : ai_My l ai_Mt ai_P ai_Hd ai_ML 12 := ai_my (nm := yX1_winner) rfl (by decide +kernel) rfl rfl (ai_tb (t := tX1_winner) oX1_winner)
theorem my_13 {l : Launch} (hl : l.stackTraces = false) : ai_My l ai_Mt ai_P ai_Hd ai_ML 13 := ai_my (nm := yX1_firstMove) rfl (by decide +kernel) rfl rfl (ai_tb (t := tX1_firstMove) oX1_firstMove)
theorem my_14 {l : Launch} (hl : l.stackTraces = false) : ai_My l ai_Mt ai_P ai_Hd ai_ML 14 := ai_my (nm := yX1_winnerBehind) rfl (by decide +kernel) rfl rfl (ai_tb (t := tX1_winnerBehind) oX1_winnerBehind)
theorem my_15 {l : Launch} (hl : l.stackTraces = false) : ai_My l ai_Mt ai_P ai_Hd ai_ML 15 := ai_my (nm := yX1_winnerFrom) rfl (by decide +kernel) rfl rfl (ai_tb (t := tX1_winnerFrom) oX1_winnerFrom)
theorem my_16 {l : Launch} (hl : l.stackTraces = false) : ai_My l ai_Mt ai_P ai_Hd ai_ML 16 := ai_my (nm := yX2_init) rfl (by decide +kernel) rfl rfl (ai_tb (t := tX2_init) oX2_init)
theorem my_17 {l : Launch} (hl : l.stackTraces = false) : ai_My l ai_Mt ai_P ai_Hd ai_ML 17 := ai_my (nm := yX2_empty) rfl (by decide +kernel) rfl rfl (ai_tb (t := tX2_empty) oX2_empty)
theorem my_18 {l : Launch} (hl : l.stackTraces = false) : ai_My l ai_Mt ai_P ai_Hd ai_ML 18 := ai_my (nm := yX2_put) rfl (by decide +kernel) rfl rfl (ai_tb (t := tX2_put) oX2_put)
theorem my_19 {l : Launch} (hl : l.stackTraces = false) : ai_My l ai_Mt ai_P ai_Hd ai_ML 19 := ai_my (nm := yX2_isTold) rfl (by decide +kernel) rfl rfl (ai_tb (t := tX2_isTold) oX2_isTold)
theorem my_20 {l : Launch} (hl : l.stackTraces = false) : ai_My l ai_Mt ai_P ai_Hd ai_ML 20 := ai_my (nm := yX2_value) rfl (by decide +kernel) rfl rfl (ai_tb (t := tX2_value) oX2_value)
theorem my_21 {l : Launch} (hl : l.stackTraces = false) : ai_My l ai_Mt ai_P ai_Hd ai_ML 21 := ai_my (nm := yX2_join) rfl (by decide +kernel) rfl rfl (ai_tb (t := tX2_join) oX2_join)
theorem my_22 {l : Launch} (hl : l.stackTraces = false) : ai_My l ai_Mt ai_P ai_Hd ai_ML 22 := ai_my (nm := yX3_init) rfl (by decide +kernel) rfl rfl (ai_tb (t := tX3_init) oX3_init)
theorem my_23 {l : Launch} (hl : l.stackTraces = false) : ai_My l ai_Mt ai_P ai_Hd ai_ML 23 := ai_my (nm := yX3_readText) rfl (by decide +kernel) rfl rfl (ai_tb (t := tX3_readText) oX3_readText)
theorem my_24 {l : Launch} (hl : l.stackTraces = false) : ai_My l ai_Mt ai_P ai_Hd ai_ML 24 := ai_my (nm := yX3_fail) rfl (by decide +kernel) rfl rfl (ai_tb (t := tX3_fail) (oX3_fail hl))
theorem my_25 {l : Launch} (hl : l.stackTraces = false) : ai_My l ai_Mt ai_P ai_Hd ai_ML 25 := ai_my (nm := yX3_expect) rfl (by decide +kernel) rfl rfl (ai_tb (t := tX3_expect) oX3_expect)
theorem my_26 {l : Launch} (hl : l.stackTraces = false) : ai_My l ai_Mt ai_P ai_Hd ai_ML 26 := ai_my (nm := yX3_readLine) rfl (by decide +kernel) rfl rfl (ai_tb (t := tX3_readLine) oX3_readLine)
theorem my_27 {l : Launch} (hl : l.stackTraces = false) : ai_My l ai_Mt ai_P ai_Hd ai_ML 27 := ai_my (nm := yX3_beginRow) rfl (by decide +kernel) rfl rfl (ai_tb (t := tX3_beginRow) oX3_beginRow)
theorem my_28 {l : Launch} (hl : l.stackTraces = false) : ai_My l ai_Mt ai_P ai_Hd ai_ML 28 := ai_my (nm := yX3_beginOnce) rfl (by decide +kernel) rfl rfl (ai_tb (t := tX3_beginOnce) oX3_beginOnce)
theorem my_29 {l : Launch} (hl : l.stackTraces = false) : ai_My l ai_Mt ai_P ai_Hd ai_ML 29 := ai_my (nm := yX3_readPath) rfl (by decide +kernel) rfl rfl (ai_tb (t := tX3_readPath) oX3_readPath)
theorem my_30 {l : Launch} (hl : l.stackTraces = false) : ai_My l ai_Mt ai_P ai_Hd ai_ML 30 := ai_my (nm := yX3_readWalker) rfl (by decide +kernel) rfl rfl (ai_tb (t := tX3_readWalker) oX3_readWalker)
theorem my_31 {l : Launch} (hl : l.stackTraces = false) : ai_My l ai_Mt ai_P ai_Hd ai_ML 31 := ai_my (nm := yX3_readWalk) rfl (by decide +kernel) rfl rfl (ai_tb (t := tX3_readWalk) oX3_readWalk)
theorem my_32 {l : Launch} (hl : l.stackTraces = false) : ai_My l ai_Mt ai_P ai_Hd ai_ML 32 := ai_my (nm := yX3_readBull) rfl (by decide +kernel) rfl rfl (ai_tb (t := tX3_readBull) oX3_readBull)
theorem my_33 {l : Launch} (hl : l.stackTraces = false) : ai_My l ai_Mt ai_P ai_Hd ai_ML 33 := ai_my (nm := yX3_readNewName) rfl (by decide +kernel) rfl rfl (ai_tb (t := tX3_readNewName) oX3_readNewName)
theorem my_34 {l : Launch} (hl : l.stackTraces = false) : ai_My l ai_Mt ai_P ai_Hd ai_ML 34 := ai_my (nm := yX3_readTold) rfl (by decide +kernel) rfl rfl (ai_tb (t := tX3_readTold) oX3_readTold)
theorem my_35 {l : Launch} (hl : l.stackTraces = false) : ai_My l ai_Mt ai_P ai_Hd ai_ML 35 := ai_my (nm := yX3_readNumber) rfl (by decide +kernel) rfl rfl (ai_tb (t := tX3_readNumber) oX3_readNumber)
theorem my_36 {l : Launch} (hl : l.stackTraces = false) : ai_My l ai_Mt ai_P ai_Hd ai_ML 36 := ai_my (nm := yX3_readLaw) rfl (by decide +kernel) rfl rfl (ai_tb (t := tX3_readLaw) oX3_readLaw)
theorem my_37 {l : Launch} (hl : l.stackTraces = false) : ai_My l ai_Mt ai_P ai_Hd ai_ML 37 := ai_my (nm := yX3_readLevel) rfl (by decide +kernel) rfl rfl (ai_tb (t := tX3_readLevel) oX3_readLevel)
theorem my_38 {l : Launch} (hl : l.stackTraces = false) : ai_My l ai_Mt ai_P ai_Hd ai_ML 38 := ai_my (nm := yX3_readNots) rfl (by decide +kernel) rfl rfl (ai_tb (t := tX3_readNots) oX3_readNots)
theorem my_39 {l : Launch} (hl : l.stackTraces = false) : ai_My l ai_Mt ai_P ai_Hd ai_ML 39 := ai_my (nm := yX3_readPart) rfl (by decide +kernel) rfl rfl (ai_tb (t := tX3_readPart) oX3_readPart)
theorem my_40 {l : Launch} (hl : l.stackTraces = false) : ai_My l ai_Mt ai_P ai_Hd ai_ML 40 := ai_my (nm := yX3_takeKnot) rfl (by decide +kernel) rfl rfl (ai_tb (t := tX3_takeKnot) oX3_takeKnot)
theorem my_41 {l : Launch} (hl : l.stackTraces = false) : ai_My l ai_Mt ai_P ai_Hd ai_ML 41 := ai_my (nm := yX3_levelOf) rfl (by decide +kernel) rfl rfl (ai_tb (t := tX3_levelOf) oX3_levelOf)
theorem my_42 {l : Launch} (hl : l.stackTraces = false) : ai_My l ai_Mt ai_P ai_Hd ai_ML 42 := ai_my (nm := yX4_init) rfl (by decide +kernel) rfl rfl (ai_tb (t := tX4_init) oX4_init)
theorem my_43 {l : Launch} (hl : l.stackTraces = false) : ai_My l ai_Mt ai_P ai_Hd ai_ML 43 := ai_my (nm := yX4_empty) rfl (by decide +kernel) rfl rfl (ai_tb (t := tX4_empty) oX4_empty)
theorem my_44 {l : Launch} (hl : l.stackTraces = false) : ai_My l ai_Mt ai_P ai_Hd ai_ML 44 := ai_my (nm := yX4_knownSize) rfl (by decide +kernel) rfl rfl (ai_tb (t := tX4_knownSize) oX4_knownSize)
theorem my_45 {l : Launch} (hl : l.stackTraces = false) : ai_My l ai_Mt ai_P ai_Hd ai_ML 45 := ai_my (nm := yX4_add) rfl (by decide +kernel) rfl rfl (ai_tb (t := tX4_add) oX4_add)
theorem my_46 {l : Launch} (hl : l.stackTraces = false) : ai_My l ai_Mt ai_P ai_Hd ai_ML 46 := ai_my (nm := yX4_sift) rfl (by decide +kernel) rfl rfl (ai_tb (t := tX4_sift) oX4_sift)
theorem my_47 {l : Launch} (hl : l.stackTraces = false) : ai_My l ai_Mt ai_P ai_Hd ai_ML 47 := ai_my (nm := yX4_isSo) rfl (by decide +kernel) rfl rfl (ai_tb (t := tX4_isSo) oX4_isSo)
theorem my_48 {l : Launch} (hl : l.stackTraces = false) : ai_My l ai_Mt ai_P ai_Hd ai_ML 48 := ai_my (nm := yX5_init) rfl (by decide +kernel) rfl rfl (ai_tb (t := tX5_init) oX5_init)
theorem my_49 {l : Launch} (hl : l.stackTraces = false) : ai_My l ai_Mt ai_P ai_Hd ai_ML 49 := ai_my (nm := yX5_begin) rfl (by decide +kernel) rfl rfl (ai_tb (t := tX5_begin) oX5_begin)
theorem my_50 {l : Launch} (hl : l.stackTraces = false) : ai_My l ai_Mt ai_P ai_Hd ai_ML 50 := ai_my (nm := yX5_copyFrom) rfl (by decide +kernel) rfl rfl (ai_tb (t := tX5_copyFrom) oX5_copyFrom)
theorem my_51 {l : Launch} (hl : l.stackTraces = false) : ai_My l ai_Mt ai_P ai_Hd ai_ML 51 := ai_my (nm := yX5_isKept) rfl (by decide +kernel) rfl rfl (ai_tb (t := tX5_isKept) oX5_isKept)
theorem my_52 {l : Launch} (hl : l.stackTraces = false) : ai_My l ai_Mt ai_P ai_Hd ai_ML 52 := ai_my (nm := yX6_init) rfl (by decide +kernel) rfl rfl (ai_tb (t := tX6_init) oX6_init)
theorem my_53 {l : Launch} (hl : l.stackTraces = false) : ai_My l ai_Mt ai_P ai_Hd ai_ML 53 := ai_my (nm := yX6_isFull) rfl (by decide +kernel) rfl rfl (ai_tb (t := tX6_isFull) oX6_isFull)
theorem my_54 {l : Launch} (hl : l.stackTraces = false) : ai_My l ai_Mt ai_P ai_Hd ai_ML 54 := ai_my (nm := yX6_find) rfl (by decide +kernel) rfl rfl (ai_tb (t := tX6_find) oX6_find)
theorem my_55 {l : Launch} (hl : l.stackTraces = false) : ai_My l ai_Mt ai_P ai_Hd ai_ML 55 := ai_my (nm := yX6_cell) rfl (by decide +kernel) rfl rfl (ai_tb (t := tX6_cell) oX6_cell)
theorem my_56 {l : Launch} (hl : l.stackTraces = false) : ai_My l ai_Mt ai_P ai_Hd ai_ML 56 := ai_my (nm := yX6_put) rfl (by decide +kernel) rfl rfl (ai_tb (t := tX6_put) oX6_put)
theorem my_57 {l : Launch} (hl : l.stackTraces = false) : ai_My l ai_Mt ai_P ai_Hd ai_ML 57 := ai_my (nm := yX6_putName) rfl (by decide +kernel) rfl rfl (ai_tb (t := tX6_putName) oX6_putName)
theorem my_58 {l : Launch} (hl : l.stackTraces = false) : ai_My l ai_Mt ai_P ai_Hd ai_ML 58 := ai_my (nm := yX6_endRow) rfl (by decide +kernel) rfl rfl (ai_tb (t := tX6_endRow) oX6_endRow)
theorem my_60 {l : Launch} (hl : l.stackTraces = false) : ai_My l ai_Mt ai_P ai_Hd ai_ML 60 := ai_my (nm := yX7_isName) rfl (by decide +kernel) rfl rfl (ai_tb (t := tX7_isName) oX7_isName)
theorem my_61 {l : Launch} (hl : l.stackTraces = false) : ai_My l ai_Mt ai_P ai_Hd ai_ML 61 := ai_my (nm := yX7_begin) rfl (by decide +kernel) rfl rfl (ai_tb (t := tX7_begin) oX7_begin)
theorem my_62 {l : Launch} (hl : l.stackTraces = false) : ai_My l ai_Mt ai_P ai_Hd ai_ML 62 := ai_my (nm := yX7_advance) rfl (by decide +kernel) rfl rfl (ai_tb (t := tX7_advance) oX7_advance)
theorem my_64 {l : Launch} (hl : l.stackTraces = false) : ai_My l ai_Mt ai_P ai_Hd ai_ML 64 := ai_my (nm := yX7_readWord) rfl (by decide +kernel) rfl rfl (ai_tb (t := tX7_readWord) oX7_readWord)
theorem my_65 {l : Launch} (hl : l.stackTraces = false) : ai_My l ai_Mt ai_P ai_Hd ai_ML 65 := ai_my (nm := yX7_readDigits) rfl (by decide +kernel) rfl rfl (ai_tb (t := tX7_readDigits) oX7_readDigits)
theorem my_66 {l : Launch} (hl : l.stackTraces = false) : ai_My l ai_Mt ai_P ai_Hd ai_ML 66 := ai_my (nm := yX7_readSign) rfl (by decide +kernel) rfl rfl (ai_tb (t := tX7_readSign) oX7_readSign)
theorem my_67 {l : Launch} (hl : l.stackTraces = false) : ai_My l ai_Mt ai_P ai_Hd ai_ML 67 := ai_my (nm := yX7_readComparison) rfl (by decide +kernel) rfl rfl (ai_tb (t := tX7_readComparison) oX7_readComparison)
theorem my_68 {l : Launch} (hl : l.stackTraces = false) : ai_My l ai_Mt ai_P ai_Hd ai_ML 68 := ai_my (nm := yX8_init) rfl (by decide +kernel) rfl rfl (ai_tb (t := tX8_init) oX8_init)
theorem my_69 {l : Launch} (hl : l.stackTraces = false) : ai_My l ai_Mt ai_P ai_Hd ai_ML 69 := ai_my (nm := yX8_empty) rfl (by decide +kernel) rfl rfl (ai_tb (t := tX8_empty) oX8_empty)
theorem my_70 {l : Launch} (hl : l.stackTraces = false) : ai_My l ai_Mt ai_P ai_Hd ai_ML 70 := ai_my (nm := yX8_ends) rfl (by decide +kernel) rfl rfl (ai_tb (t := tX8_ends) oX8_ends)
theorem my_71 {l : Launch} (hl : l.stackTraces = false) : ai_My l ai_Mt ai_P ai_Hd ai_ML 71 := ai_my (nm := yX8_isBullOn) rfl (by decide +kernel) rfl rfl (ai_tb (t := tX8_isBullOn) oX8_isBullOn)
theorem my_72 {l : Launch} (hl : l.stackTraces = false) : ai_My l ai_Mt ai_P ai_Hd ai_ML 72 := ai_my (nm := yX9_init) rfl (by decide +kernel) rfl rfl (ai_tb (t := tX9_init) oX9_init)
theorem my_73 {l : Launch} (hl : l.stackTraces = false) : ai_My l ai_Mt ai_P ai_Hd ai_ML 73 := ai_my (nm := yX9_openFor) rfl (by decide +kernel) rfl rfl (ai_tb (t := tX9_openFor) oX9_openFor)
theorem my_74 {l : Launch} (hl : l.stackTraces = false) : ai_My l ai_Mt ai_P ai_Hd ai_ML 74 := ai_my (nm := yX9_spread) rfl (by decide +kernel) rfl rfl (ai_tb (t := tX9_spread) oX9_spread)
theorem my_75 {l : Launch} (hl : l.stackTraces = false) : ai_My l ai_Mt ai_P ai_Hd ai_ML 75 := ai_my (nm := yX9_sets) rfl (by decide +kernel) rfl rfl (ai_tb (t := tX9_sets) oX9_sets)
theorem my_76 {l : Launch} (hl : l.stackTraces = false) : ai_My l ai_Mt ai_P ai_Hd ai_ML 76 := ai_my (nm := yX9_pairs) rfl (by decide +kernel) rfl rfl (ai_tb (t := tX9_pairs) oX9_pairs)
theorem my_77 {l : Launch} (hl : l.stackTraces = false) : ai_My l ai_Mt ai_P ai_Hd ai_ML 77 := ai_my (nm := yX9_blindEnds) rfl (by decide +kernel) rfl rfl (ai_tb (t := tX9_blindEnds) oX9_blindEnds)
theorem my_78 {l : Launch} (hl : l.stackTraces = false) : ai_My l ai_Mt ai_P ai_Hd ai_ML 78 := ai_my (nm := yX9_endsOfAll) rfl (by decide +kernel) rfl rfl (ai_tb (t := tX9_endsOfAll) oX9_endsOfAll)
theorem my_79 {l : Launch} (hl : l.stackTraces = false) : ai_My l ai_Mt ai_P ai_Hd ai_ML 79 := ai_my (nm := yX9_fewestWatched) rfl (by decide +kernel) rfl rfl (ai_tb (t := tX9_fewestWatched) oX9_fewestWatched)
theorem my_80 {l : Launch} (hl : l.stackTraces = false) : ai_My l ai_Mt ai_P ai_Hd ai_ML 80 := ai_my (nm := yX9_isWatched) rfl (by decide +kernel) rfl rfl (ai_tb (t := tX9_isWatched) oX9_isWatched)
theorem my_81 {l : Launch} (hl : l.stackTraces = false) : ai_My l ai_Mt ai_P ai_Hd ai_ML 81 := ai_my (nm := yX9_leastLength) rfl (by decide +kernel) rfl rfl (ai_tb (t := tX9_leastLength) oX9_leastLength)
theorem my_82 {l : Launch} (hl : l.stackTraces = false) : ai_My l ai_Mt ai_P ai_Hd ai_ML 82 := ai_my (nm := yX9_shorten) rfl (by decide +kernel) rfl rfl (ai_tb (t := tX9_shorten) oX9_shorten)
theorem my_83 {l : Launch} (hl : l.stackTraces = false) : ai_My l ai_Mt ai_P ai_Hd ai_ML 83 := ai_my (nm := yX9_leastRound) rfl (by decide +kernel) rfl rfl (ai_tb (t := tX9_leastRound) oX9_leastRound)
theorem my_84 {l : Launch} (hl : l.stackTraces = false) : ai_My l ai_Mt ai_P ai_Hd ai_ML 84 := ai_my (nm := yX9_goOn) rfl (by decide +kernel) rfl rfl (ai_tb (t := tX9_goOn) oX9_goOn)
theorem my_85 {l : Launch} (hl : l.stackTraces = false) : ai_My l ai_Mt ai_P ai_Hd ai_ML 85 := ai_my (nm := yX9_lessen) rfl (by decide +kernel) rfl rfl (ai_tb (t := tX9_lessen) oX9_lessen)
theorem my_86 {l : Launch} (hl : l.stackTraces = false) : ai_My l ai_Mt ai_P ai_Hd ai_ML 86 := ai_my (nm := yX9_matchAll) rfl (by decide +kernel) rfl rfl (ai_tb (t := tX9_matchAll) oX9_matchAll)
theorem my_87 {l : Launch} (hl : l.stackTraces = false) : ai_My l ai_Mt ai_P ai_Hd ai_ML 87 := ai_my (nm := yX9_matchFrom) rfl (by decide +kernel) rfl rfl (ai_tb (t := tX9_matchFrom) oX9_matchFrom)
theorem my_88 {l : Launch} (hl : l.stackTraces = false) : ai_My l ai_Mt ai_P ai_Hd ai_ML 88 := ai_my (nm := yX10_init) rfl (by decide +kernel) rfl rfl (ai_tb (t := tX10_init) oX10_init)
theorem my_89 {l : Launch} (hl : l.stackTraces = false) : ai_My l ai_Mt ai_P ai_Hd ai_ML 89 := ai_my (nm := yX10_feed) rfl (by decide +kernel) rfl rfl (ai_tb (t := tX10_feed) oX10_feed)
theorem my_90 {l : Launch} (hl : l.stackTraces = false) : ai_My l ai_Mt ai_P ai_Hd ai_ML 90 := ai_my (nm := yX10_putFour) rfl (by decide +kernel) rfl rfl (ai_tb (t := tX10_putFour) oX10_putFour)
theorem my_91 {l : Launch} (hl : l.stackTraces = false) : ai_My l ai_Mt ai_P ai_Hd ai_ML 91 := ai_myW (nm := yX10_text) rfl (by decide +kernel) rfl (ai_tb (t := tX10_text) oX10_text) ai_text_no (ai_nt_at nt_X10_text) (fun p e R s m args below meth c D aC A ad0 n0 Q X ht => ai_text_hd X ht)
theorem my_92 {l : Launch} (hl : l.stackTraces = false) : ai_My l ai_Mt ai_P ai_Hd ai_ML 92 := ai_my (nm := yX10_fault) rfl (by decide +kernel) rfl rfl (ai_tb (t := tX10_fault) oX10_fault)
theorem my_93 {l : Launch} (hl : l.stackTraces = false) : ai_My l ai_Mt ai_P ai_Hd ai_ML 93 := ai_my (nm := yX10_named) rfl (by decide +kernel) rfl rfl (ai_tb (t := tX10_named) oX10_named)
theorem my_94 {l : Launch} (hl : l.stackTraces = false) : ai_My l ai_Mt ai_P ai_Hd ai_ML 94 := ai_my (nm := yX10_isPlace) rfl (by decide +kernel) rfl rfl (ai_tb (t := tX10_isPlace) oX10_isPlace)
theorem my_95 {l : Launch} (hl : l.stackTraces = false) : ai_My l ai_Mt ai_P ai_Hd ai_ML 95 := ai_my (nm := yX10_isPath) rfl (by decide +kernel) rfl rfl (ai_tb (t := tX10_isPath) oX10_isPath)
theorem my_96 {l : Launch} (hl : l.stackTraces = false) : ai_My l ai_Mt ai_P ai_Hd ai_ML 96 := ai_my (nm := yX10_isWalker) rfl (by decide +kernel) rfl rfl (ai_tb (t := tX10_isWalker) oX10_isWalker)
theorem my_97 {l : Launch} (hl : l.stackTraces = false) : ai_My l ai_Mt ai_P ai_Hd ai_ML 97 := ai_my (nm := yX10_isWithin) rfl (by decide +kernel) rfl rfl (ai_tb (t := tX10_isWithin) oX10_isWithin)
theorem my_98 {l : Launch} (hl : l.stackTraces = false) : ai_My l ai_Mt ai_P ai_Hd ai_ML 98 := ai_my (nm := yX10_path) rfl (by decide +kernel) rfl rfl (ai_tb (t := tX10_path) (oX10_path hl))
theorem my_99 {l : Launch} (hl : l.stackTraces = false) : ai_My l ai_Mt ai_P ai_Hd ai_ML 99 := ai_my (nm := yX10_walker) rfl (by decide +kernel) rfl rfl (ai_tb (t := tX10_walker) oX10_walker)
theorem my_100 {l : Launch} (hl : l.stackTraces = false) : ai_My l ai_Mt ai_P ai_Hd ai_ML 100 := ai_my (nm := yX10_pathsHeCanGo) rfl (by decide +kernel) rfl rfl (ai_tb (t := tX10_pathsHeCanGo) oX10_pathsHeCanGo)
theorem my_101 {l : Launch} (hl : l.stackTraces = false) : ai_My l ai_Mt ai_P ai_Hd ai_ML 101 := ai_my (nm := yX10_law) rfl (by decide +kernel) rfl rfl (ai_tb (t := tX10_law) oX10_law)
theorem my_102 {l : Launch} (hl : l.stackTraces = false) : ai_My l ai_Mt ai_P ai_Hd ai_ML 102 := ai_my (nm := yX10_count) rfl (by decide +kernel) rfl rfl (ai_tb (t := tX10_count) oX10_count)
theorem my_103 {l : Launch} (hl : l.stackTraces = false) : ai_My l ai_Mt ai_P ai_Hd ai_ML 103 := ai_my (nm := yX10_walk) rfl (by decide +kernel) rfl rfl (ai_tb (t := tX10_walk) oX10_walk)
theorem my_104 {l : Launch} (hl : l.stackTraces = false) : ai_My l ai_Mt ai_P ai_Hd ai_ML 104 := ai_my (nm := yX10_mow) rfl (by decide +kernel) rfl rfl (ai_tb (t := tX10_mow) oX10_mow)
theorem my_105 {l : Launch} (hl : l.stackTraces = false) : ai_My l ai_Mt ai_P ai_Hd ai_ML 105 := ai_my (nm := yX10_carry) rfl (by decide +kernel) rfl rfl (ai_tb (t := tX10_carry) oX10_carry)
theorem my_106 {l : Launch} (hl : l.stackTraces = false) : ai_My l ai_Mt ai_P ai_Hd ai_ML 106 := ai_my (nm := yX10_remember) rfl (by decide +kernel) rfl rfl (ai_tb (t := tX10_remember) oX10_remember)
theorem my_107 {l : Launch} (hl : l.stackTraces = false) : ai_My l ai_Mt ai_P ai_Hd ai_ML 107 := ai_my (nm := yX10_undo) rfl (by decide +kernel) rfl rfl (ai_tb (t := tX10_undo) oX10_undo)
theorem my_108 {l : Launch} (hl : l.stackTraces = false) : ai_My l ai_Mt ai_P ai_Hd ai_ML 108 := ai_my (nm := yX10_keep) rfl (by decide +kernel) rfl rfl (ai_tb (t := tX10_keep) oX10_keep)
theorem my_109 {l : Launch} (hl : l.stackTraces = false) : ai_My l ai_Mt ai_P ai_Hd ai_ML 109 := ai_my (nm := yX10_back) rfl (by decide +kernel) rfl rfl (ai_tb (t := tX10_back) oX10_back)
theorem my_110 {l : Launch} (hl : l.stackTraces = false) : ai_My l ai_Mt ai_P ai_Hd ai_ML 110 := ai_my (nm := yX10_go) rfl (by decide +kernel) rfl rfl (ai_tb (t := tX10_go) oX10_go)
theorem my_111 {l : Launch} (hl : l.stackTraces = false) : ai_My l ai_Mt ai_P ai_Hd ai_ML 111 := ai_my (nm := yX10_beginAhead) rfl (by decide +kernel) rfl rfl (ai_tb (t := tX10_beginAhead) oX10_beginAhead)
theorem my_112 {l : Launch} (hl : l.stackTraces = false) : ai_My l ai_Mt ai_P ai_Hd ai_ML 112 := ai_my (nm := yX10_ahead) rfl (by decide +kernel) rfl rfl (ai_tb (t := tX10_ahead) oX10_ahead)
theorem my_113 {l : Launch} (hl : l.stackTraces = false) : ai_My l ai_Mt ai_P ai_Hd ai_ML 113 := ai_my (nm := yX10_isAsked) rfl (by decide +kernel) rfl rfl (ai_tb (t := tX10_isAsked) oX10_isAsked)
theorem my_114 {l : Launch} (hl : l.stackTraces = false) : ai_My l ai_Mt ai_P ai_Hd ai_ML 114 := ai_my (nm := yX10_lapse) rfl (by decide +kernel) rfl rfl (ai_tb (t := tX10_lapse) oX10_lapse)
theorem my_115 {l : Launch} (hl : l.stackTraces = false) : ai_My l ai_Mt ai_P ai_Hd ai_ML 115 := ai_my (nm := yX10_tried) rfl (by decide +kernel) rfl rfl (ai_tb (t := tX10_tried) oX10_tried)
theorem my_116 {l : Launch} (hl : l.stackTraces = false) : ai_My l ai_Mt ai_P ai_Hd ai_ML 116 := ai_my (nm := yX10_chance) rfl (by decide +kernel) rfl rfl (ai_tb (t := tX10_chance) oX10_chance)
theorem my_117 {l : Launch} (hl : l.stackTraces = false) : ai_My l ai_Mt ai_P ai_Hd ai_ML 117 := ai_my (nm := yX10_reach) rfl (by decide +kernel) rfl rfl (ai_tb (t := tX10_reach) oX10_reach)
theorem my_118 {l : Launch} (hl : l.stackTraces = false) : ai_My l ai_Mt ai_P ai_Hd ai_ML 118 := ai_my (nm := yX10_way) rfl (by decide +kernel) rfl rfl (ai_tb (t := tX10_way) oX10_way)
theorem my_119 {l : Launch} (hl : l.stackTraces = false) : ai_My l ai_Mt ai_P ai_Hd ai_ML 119 := ai_my (nm := yX10_round) rfl (by decide +kernel) rfl rfl (ai_tb (t := tX10_round) oX10_round)
theorem my_120 {l : Launch} (hl : l.stackTraces = false) : ai_My l ai_Mt ai_P ai_Hd ai_ML 120 := ai_my (nm := yX10_needed) rfl (by decide +kernel) rfl rfl (ai_tb (t := tX10_needed) oX10_needed)
theorem my_121 {l : Launch} (hl : l.stackTraces = false) : ai_My l ai_Mt ai_P ai_Hd ai_ML 121 := ai_my (nm := yX10_blind) rfl (by decide +kernel) rfl rfl (ai_tb (t := tX10_blind) oX10_blind)
theorem my_122 {l : Launch} (hl : l.stackTraces = false) : ai_My l ai_Mt ai_P ai_Hd ai_ML 122 := ai_my (nm := yX10_watch) rfl (by decide +kernel) rfl rfl (ai_tb (t := tX10_watch) oX10_watch)
theorem my_123 {l : Launch} (hl : l.stackTraces = false) : ai_My l ai_Mt ai_P ai_Hd ai_ML 123 := ai_my (nm := yX10_match) rfl (by decide +kernel) rfl rfl (ai_tb (t := tX10_match) oX10_match)
theorem my_124 {l : Launch} (hl : l.stackTraces = false) : ai_My l ai_Mt ai_P ai_Hd ai_ML 124 := ai_my (nm := yX10_game) rfl (by decide +kernel) rfl rfl (ai_tb (t := tX10_game) oX10_game)
theorem my_125 {l : Launch} (hl : l.stackTraces = false) : ai_My l ai_Mt ai_P ai_Hd ai_ML 125 := ai_my (nm := yX10_isPair) rfl (by decide +kernel) rfl rfl (ai_tb (t := tX10_isPair) oX10_isPair)
theorem my_126 {l : Launch} (hl : l.stackTraces = false) : ai_My l ai_Mt ai_P ai_Hd ai_ML 126 := ai_my (nm := yX10_rests) rfl (by decide +kernel) rfl rfl (ai_tb (t := tX10_rests) oX10_rests)
theorem my_127 {l : Launch} (hl : l.stackTraces = false) : ai_My l ai_Mt ai_P ai_Hd ai_ML 127 := ai_my (nm := yX10_rest) rfl (by decide +kernel) rfl rfl (ai_tb (t := tX10_rest) oX10_rest)
theorem my_128 {l : Launch} (hl : l.stackTraces = false) : ai_My l ai_Mt ai_P ai_Hd ai_ML 128 := ai_my (nm := yX10_isRest) rfl (by decide +kernel) rfl rfl (ai_tb (t := tX10_isRest) oX10_isRest)
theorem my_129 {l : Launch} (hl : l.stackTraces = false) : ai_My l ai_Mt ai_P ai_Hd ai_ML 129 := ai_my (nm := yX10_share) rfl (by decide +kernel) rfl rfl (ai_tb (t := tX10_share) oX10_share)
theorem my_130 {l : Launch} (hl : l.stackTraces = false) : ai_My l ai_Mt ai_P ai_Hd ai_ML 130 := ai_my (nm := yX10_tries) rfl (by decide +kernel) rfl rfl (ai_tb (t := tX10_tries) oX10_tries)
theorem my_131 {l : Launch} (hl : l.stackTraces = false) : ai_My l ai_Mt ai_P ai_Hd ai_ML 131 := ai_my (nm := yX10_clear) rfl (by decide +kernel) rfl rfl (ai_tb (t := tX10_clear) oX10_clear)
theorem my_132 {l : Launch} (hl : l.stackTraces = false) : ai_My l ai_Mt ai_P ai_Hd ai_ML 132 := ai_my (nm := yX10_commonDivisor) rfl (by decide +kernel) rfl rfl (ai_tb (t := tX10_commonDivisor) oX10_commonDivisor)
theorem my_133 {l : Launch} (hl : l.stackTraces = false) : ai_My l ai_Mt ai_P ai_Hd ai_ML 133 := ai_my (nm := yX10_see) rfl (by decide +kernel) rfl rfl (ai_tb (t := tX10_see) oX10_see)
theorem my_134 {l : Launch} (hl : l.stackTraces = false) : ai_My l ai_Mt ai_P ai_Hd ai_ML 134 := ai_my (nm := yX10_strike) rfl (by decide +kernel) rfl rfl (ai_tb (t := tX10_strike) oX10_strike)
theorem my_135 {l : Launch} (hl : l.stackTraces = false) : ai_My l ai_Mt ai_P ai_Hd ai_ML 135 := ai_my (nm := yX10_known) rfl (by decide +kernel) rfl rfl (ai_tb (t := tX10_known) oX10_known)
theorem my_136 {l : Launch} (hl : l.stackTraces = false) : ai_My l ai_Mt ai_P ai_Hd ai_ML 136 := ai_my (nm := yX10_legs) rfl (by decide +kernel) rfl rfl (ai_tb (t := tX10_legs) oX10_legs)
theorem my_137 {l : Launch} (hl : l.stackTraces = false) : ai_My l ai_Mt ai_P ai_Hd ai_ML 137 := ai_my (nm := yX10_sit) rfl (by decide +kernel) rfl rfl (ai_tb (t := tX10_sit) oX10_sit)
theorem my_138 {l : Launch} (hl : l.stackTraces = false) : ai_My l ai_Mt ai_P ai_Hd ai_ML 138 := ai_my (nm := yX10_leftAtWorst) rfl (by decide +kernel) rfl rfl (ai_tb (t := tX10_leftAtWorst) oX10_leftAtWorst)
theorem my_139 {l : Launch} (hl : l.stackTraces = false) : ai_My l ai_Mt ai_P ai_Hd ai_ML 139 := ai_my (nm := yX10_placeIfLegs) rfl (by decide +kernel) rfl rfl (ai_tb (t := tX10_placeIfLegs) oX10_placeIfLegs)
theorem my_140 {l : Launch} (hl : l.stackTraces = false) : ai_My l ai_Mt ai_P ai_Hd ai_ML 140 := ai_my (nm := yX11_init) rfl (by decide +kernel) rfl rfl (ai_tb (t := tX11_init) oX11_init)
theorem my_141 {l : Launch} (hl : l.stackTraces = false) : ai_My l ai_Mt ai_P ai_Hd ai_ML 141 := ai_my (nm := yX11_thrown) rfl (by decide +kernel) rfl rfl (ai_tb (t := tX11_thrown) oX11_thrown)
theorem my_142 {l : Launch} (hl : l.stackTraces = false) : ai_My l ai_Mt ai_P ai_Hd ai_ML 142 := ai_my (nm := yX11_feed) rfl (by decide +kernel) rfl rfl (ai_tb (t := tX11_feed) oX11_feed)
theorem my_143 {l : Launch} (hl : l.stackTraces = false) : ai_My l ai_Mt ai_P ai_Hd ai_ML 143 := ai_my (nm := yX11_isIn) rfl (by decide +kernel) rfl rfl (ai_tb (t := tX11_isIn) oX11_isIn)
theorem my_144 {l : Launch} (hl : l.stackTraces = false) : ai_My l ai_Mt ai_P ai_Hd ai_ML 144 := ai_my (nm := yX11_isOf) rfl (by decide +kernel) rfl rfl (ai_tb (t := tX11_isOf) oX11_isOf)
theorem my_145 {l : Launch} (hl : l.stackTraces = false) : ai_My l ai_Mt ai_P ai_Hd ai_ML 145 := ai_my (nm := yX11_wrong) rfl (by decide +kernel) rfl rfl (ai_tb (t := tX11_wrong) oX11_wrong)
theorem my_146 {l : Launch} (hl : l.stackTraces = false) : ai_My l ai_Mt ai_P ai_Hd ai_ML 146 := ai_my (nm := yX11_wordAt) rfl (by decide +kernel) rfl rfl (ai_tb (t := tX11_wordAt) oX11_wordAt)
theorem my_147 {l : Launch} (hl : l.stackTraces = false) : ai_My l ai_Mt ai_P ai_Hd ai_ML 147 := ai_my (nm := yX11_isSmall) rfl (by decide +kernel) rfl rfl (ai_tb (t := tX11_isSmall) oX11_isSmall)
theorem my_148 {l : Launch} (hl : l.stackTraces = false) : ai_My l ai_Mt ai_P ai_Hd ai_ML 148 := ai_my (nm := yX11_isDigit) rfl (by decide +kernel) rfl rfl (ai_tb (t := tX11_isDigit) oX11_isDigit)
theorem my_149 {l : Launch} (hl : l.stackTraces = false) : ai_My l ai_Mt ai_P ai_Hd ai_ML 149 := ai_my (nm := yX11_token) rfl (by decide +kernel) rfl rfl (ai_tb (t := tX11_token) oX11_token)
theorem my_150 {l : Launch} (hl : l.stackTraces = false) : ai_My l ai_Mt ai_P ai_Hd ai_ML 150 := ai_my (nm := yX11_signToken) rfl (by decide +kernel) rfl rfl (ai_tb (t := tX11_signToken) oX11_signToken)
theorem my_151 {l : Launch} (hl : l.stackTraces = false) : ai_My l ai_Mt ai_P ai_Hd ai_ML 151 := ai_my (nm := yX11_packed) rfl (by decide +kernel) rfl rfl (ai_tb (t := tX11_packed) oX11_packed)
theorem my_152 {l : Launch} (hl : l.stackTraces = false) : ai_My l ai_Mt ai_P ai_Hd ai_ML 152 := ai_my (nm := yX11_isKey) rfl (by decide +kernel) rfl rfl (ai_tb (t := tX11_isKey) oX11_isKey)
theorem my_153 {l : Launch} (hl : l.stackTraces = false) : ai_My l ai_Mt ai_P ai_Hd ai_ML 153 := ai_my (nm := yX11_isSign) rfl (by decide +kernel) rfl rfl (ai_tb (t := tX11_isSign) oX11_isSign)
theorem my_154 {l : Launch} (hl : l.stackTraces = false) : ai_My l ai_Mt ai_P ai_Hd ai_ML 154 := ai_my (nm := yX11_number) rfl (by decide +kernel) rfl rfl (ai_tb (t := tX11_number) oX11_number)
theorem my_155 {l : Launch} (hl : l.stackTraces = false) : ai_My l ai_Mt ai_P ai_Hd ai_ML 155 := ai_my (nm := yX11_plain) rfl (by decide +kernel) rfl rfl (ai_tb (t := tX11_plain) oX11_plain)
theorem my_156 {l : Launch} (hl : l.stackTraces = false) : ai_My l ai_Mt ai_P ai_Hd ai_ML 156 := ai_my (nm := yX11_copies) rfl (by decide +kernel) rfl rfl (ai_tb (t := tX11_copies) oX11_copies)
theorem my_157 {l : Launch} (hl : l.stackTraces = false) : ai_My l ai_Mt ai_P ai_Hd ai_ML 157 := ai_my (nm := yX11_keepText) rfl (by decide +kernel) rfl rfl (ai_tb (t := tX11_keepText) oX11_keepText)
theorem my_158 {l : Launch} (hl : l.stackTraces = false) : ai_My l ai_Mt ai_P ai_Hd ai_ML 158 := ai_my (nm := yX11_find) rfl (by decide +kernel) rfl rfl (ai_tb (t := tX11_find) oX11_find)
theorem my_159 {l : Launch} (hl : l.stackTraces = false) : ai_My l ai_Mt ai_P ai_Hd ai_ML 159 := ai_my (nm := yX11_newName) rfl (by decide +kernel) rfl rfl (ai_tb (t := tX11_newName) oX11_newName)
theorem my_160 {l : Launch} (hl : l.stackTraces = false) : ai_My l ai_Mt ai_P ai_Hd ai_ML 160 := ai_my (nm := yX11_thereIn) rfl (by decide +kernel) rfl rfl (ai_tb (t := tX11_thereIn) oX11_thereIn)
theorem my_161 {l : Launch} (hl : l.stackTraces = false) : ai_My l ai_Mt ai_P ai_Hd ai_ML 161 := ai_my (nm := yX11_placeLine) rfl (by decide +kernel) rfl rfl (ai_tb (t := tX11_placeLine) oX11_placeLine)
theorem my_162 {l : Launch} (hl : l.stackTraces = false) : ai_My l ai_Mt ai_P ai_Hd ai_ML 162 := ai_my (nm := yX11_pathLine) rfl (by decide +kernel) rfl rfl (ai_tb (t := tX11_pathLine) oX11_pathLine)
theorem my_163 {l : Launch} (hl : l.stackTraces = false) : ai_My l ai_Mt ai_P ai_Hd ai_ML 163 := ai_my (nm := yX11_walkerLine) rfl (by decide +kernel) rfl rfl (ai_tb (t := tX11_walkerLine) oX11_walkerLine)
theorem my_164 {l : Launch} (hl : l.stackTraces = false) : ai_My l ai_Mt ai_P ai_Hd ai_ML 164 := ai_my (nm := yX11_walkLine) rfl (by decide +kernel) rfl rfl (ai_tb (t := tX11_walkLine) oX11_walkLine)
theorem my_165 {l : Launch} (hl : l.stackTraces = false) : ai_My l ai_Mt ai_P ai_Hd ai_ML 165 := ai_my (nm := yX11_bullLine) rfl (by decide +kernel) rfl rfl (ai_tb (t := tX11_bullLine) oX11_bullLine)
theorem my_166 {l : Launch} (hl : l.stackTraces = false) : ai_My l ai_Mt ai_P ai_Hd ai_ML 166 := ai_my (nm := yX11_onceLine) rfl (by decide +kernel) rfl rfl (ai_tb (t := tX11_onceLine) oX11_onceLine)
theorem my_167 {l : Launch} (hl : l.stackTraces = false) : ai_My l ai_Mt ai_P ai_Hd ai_ML 167 := ai_my (nm := yX11_lineRead) rfl (by decide +kernel) rfl rfl (ai_tb (t := tX11_lineRead) oX11_lineRead)
theorem my_168 {l : Launch} (hl : l.stackTraces = false) : ai_My l ai_Mt ai_P ai_Hd ai_ML 168 := ai_my (nm := yX11_text) rfl (by decide +kernel) rfl rfl (ai_tb (t := tX11_text) oX11_text)
theorem my_169 {l : Launch} (hl : l.stackTraces = false) : ai_My l ai_Mt ai_P ai_Hd ai_ML 169 := ai_my (nm := yX11_fault) rfl (by decide +kernel) rfl rfl (ai_tb (t := tX11_fault) oX11_fault)
theorem my_170 {l : Launch} (hl : l.stackTraces = false) : ai_My l ai_Mt ai_P ai_Hd ai_ML 170 := ai_my (nm := yX11_named) rfl (by decide +kernel) rfl rfl (ai_tb (t := tX11_named) oX11_named)
theorem my_171 {l : Launch} (hl : l.stackTraces = false) : ai_My l ai_Mt ai_P ai_Hd ai_ML 171 := ai_my (nm := yX11_rank) rfl (by decide +kernel) rfl rfl (ai_tb (t := tX11_rank) oX11_rank)
theorem my_172 {l : Launch} (hl : l.stackTraces = false) : ai_My l ai_Mt ai_P ai_Hd ai_ML 172 := ai_my (nm := yX11_grown) rfl (by decide +kernel) rfl rfl (ai_tb (t := tX11_grown) oX11_grown)
theorem my_173 {l : Launch} (hl : l.stackTraces = false) : ai_My l ai_Mt ai_P ai_Hd ai_ML 173 := ai_my (nm := yX11_dropHeld) rfl (by decide +kernel) rfl rfl (ai_tb (t := tX11_dropHeld) oX11_dropHeld)
theorem my_174 {l : Launch} (hl : l.stackTraces = false) : ai_My l ai_Mt ai_P ai_Hd ai_ML 174 := ai_my (nm := yX11_bind) rfl (by decide +kernel) rfl rfl (ai_tb (t := tX11_bind) oX11_bind)
theorem my_175 {l : Launch} (hl : l.stackTraces = false) : ai_My l ai_Mt ai_P ai_Hd ai_ML 175 := ai_my (nm := yX11_isCounted) rfl (by decide +kernel) rfl rfl (ai_tb (t := tX11_isCounted) oX11_isCounted)
theorem my_176 {l : Launch} (hl : l.stackTraces = false) : ai_My l ai_Mt ai_P ai_Hd ai_ML 176 := ai_my (nm := yX11_waitsFor) rfl (by decide +kernel) rfl rfl (ai_tb (t := tX11_waitsFor) oX11_waitsFor)
theorem my_177 {l : Launch} (hl : l.stackTraces = false) : ai_My l ai_Mt ai_P ai_Hd ai_ML 177 := ai_my (nm := yX11_nameMet) rfl (by decide +kernel) rfl rfl (ai_tb (t := tX11_nameMet) oX11_nameMet)
theorem my_178 {l : Launch} (hl : l.stackTraces = false) : ai_My l ai_Mt ai_P ai_Hd ai_ML 178 := ai_my (nm := yX11_leafRead) rfl (by decide +kernel) rfl rfl (ai_tb (t := tX11_leafRead) oX11_leafRead)
theorem my_179 {l : Launch} (hl : l.stackTraces = false) : ai_My l ai_Mt ai_P ai_Hd ai_ML 179 := ai_my (nm := yX11_signs) rfl (by decide +kernel) rfl rfl (ai_tb (t := tX11_signs) oX11_signs)
theorem my_180 {l : Launch} (hl : l.stackTraces = false) : ai_My l ai_Mt ai_P ai_Hd ai_ML 180 := ai_my (nm := yX11_sumRead) rfl (by decide +kernel) rfl rfl (ai_tb (t := tX11_sumRead) oX11_sumRead)
theorem my_181 {l : Launch} (hl : l.stackTraces = false) : ai_My l ai_Mt ai_P ai_Hd ai_ML 181 := ai_my (nm := yX11_bounded) rfl (by decide +kernel) rfl rfl (ai_tb (t := tX11_bounded) oX11_bounded)
theorem my_182 {l : Launch} (hl : l.stackTraces = false) : ai_My l ai_Mt ai_P ai_Hd ai_ML 182 := ai_my (nm := yX11_compares) rfl (by decide +kernel) rfl rfl (ai_tb (t := tX11_compares) oX11_compares)
theorem my_183 {l : Launch} (hl : l.stackTraces = false) : ai_My l ai_Mt ai_P ai_Hd ai_ML 183 := ai_my (nm := yX11_times) rfl (by decide +kernel) rfl rfl (ai_tb (t := tX11_times) oX11_times)
theorem my_184 {l : Launch} (hl : l.stackTraces = false) : ai_My l ai_Mt ai_P ai_Hd ai_ML 184 := ai_my (nm := yX11_valueOf) rfl (by decide +kernel) rfl rfl (ai_tb (t := tX11_valueOf) oX11_valueOf)
theorem my_185 {l : Launch} (hl : l.stackTraces = false) : ai_My l ai_Mt ai_P ai_Hd ai_ML 185 := ai_my (nm := yX11_begin) rfl (by decide +kernel) rfl rfl (ai_tb (t := tX11_begin) oX11_begin)
theorem my_186 {l : Launch} (hl : l.stackTraces = false) : ai_My l ai_Mt ai_P ai_Hd ai_ML 186 := ai_my (nm := yX11_atFirst) rfl (by decide +kernel) rfl rfl (ai_tb (t := tX11_atFirst) oX11_atFirst)
theorem my_187 {l : Launch} (hl : l.stackTraces = false) : ai_My l ai_Mt ai_P ai_Hd ai_ML 187 := ai_my (nm := yX11_plainTried) rfl (by decide +kernel) rfl rfl (ai_tb (t := tX11_plainTried) oX11_plainTried)
theorem my_188 {l : Launch} (hl : l.stackTraces = false) : ai_My l ai_Mt ai_P ai_Hd ai_ML 188 := ai_my (nm := yX11_layTried) rfl (by decide +kernel) rfl rfl (ai_tb (t := tX11_layTried) oX11_layTried)
theorem my_189 {l : Launch} (hl : l.stackTraces = false) : ai_My l ai_Mt ai_P ai_Hd ai_ML 189 := ai_my (nm := yX11_isPlace) rfl (by decide +kernel) rfl rfl (ai_tb (t := tX11_isPlace) oX11_isPlace)
theorem my_190 {l : Launch} (hl : l.stackTraces = false) : ai_My l ai_Mt ai_P ai_Hd ai_ML 190 := ai_my (nm := yX11_isPath) rfl (by decide +kernel) rfl rfl (ai_tb (t := tX11_isPath) oX11_isPath)
theorem my_191 {l : Launch} (hl : l.stackTraces = false) : ai_My l ai_Mt ai_P ai_Hd ai_ML 191 := ai_my (nm := yX11_isWalker) rfl (by decide +kernel) rfl rfl (ai_tb (t := tX11_isWalker) oX11_isWalker)
theorem my_192 {l : Launch} (hl : l.stackTraces = false) : ai_My l ai_Mt ai_P ai_Hd ai_ML 192 := ai_my (nm := yX11_legsIn) rfl (by decide +kernel) rfl rfl (ai_tb (t := tX11_legsIn) oX11_legsIn)
theorem my_193 {l : Launch} (hl : l.stackTraces = false) : ai_My l ai_Mt ai_P ai_Hd ai_ML 193 := ai_my (nm := yX11_layPath) rfl (by decide +kernel) rfl rfl (ai_tb (t := tX11_layPath) oX11_layPath)
theorem my_194 {l : Launch} (hl : l.stackTraces = false) : ai_My l ai_Mt ai_P ai_Hd ai_ML 194 := ai_my (nm := yX11_layBoth) rfl (by decide +kernel) rfl rfl (ai_tb (t := tX11_layBoth) oX11_layBoth)
theorem my_195 {l : Launch} (hl : l.stackTraces = false) : ai_My l ai_Mt ai_P ai_Hd ai_ML 195 := ai_my (nm := yX11_lawOf) rfl (by decide +kernel) rfl rfl (ai_tb (t := tX11_lawOf) oX11_lawOf)
theorem my_196 {l : Launch} (hl : l.stackTraces = false) : ai_My l ai_Mt ai_P ai_Hd ai_ML 196 := ai_my (nm := yX11_hasBull) rfl (by decide +kernel) rfl rfl (ai_tb (t := tX11_hasBull) oX11_hasBull)
theorem my_197 {l : Launch} (hl : l.stackTraces = false) : ai_My l ai_Mt ai_P ai_Hd ai_ML 197 := ai_my (nm := yX11_isAtEnd) rfl (by decide +kernel) rfl rfl (ai_tb (t := tX11_isAtEnd) oX11_isAtEnd)
theorem my_198 {l : Launch} (hl : l.stackTraces = false) : ai_My l ai_Mt ai_P ai_Hd ai_ML 198 := ai_my (nm := yX11_costOf) rfl (by decide +kernel) rfl rfl (ai_tb (t := tX11_costOf) oX11_costOf)
theorem my_199 {l : Launch} (hl : l.stackTraces = false) : ai_My l ai_Mt ai_P ai_Hd ai_ML 199 := ai_my (nm := yX11_can) rfl (by decide +kernel) rfl rfl (ai_tb (t := tX11_can) oX11_can)
theorem my_200 {l : Launch} (hl : l.stackTraces = false) : ai_My l ai_Mt ai_P ai_Hd ai_ML 200 := ai_my (nm := yX11_goes) rfl (by decide +kernel) rfl rfl (ai_tb (t := tX11_goes) oX11_goes)
theorem my_201 {l : Launch} (hl : l.stackTraces = false) : ai_My l ai_Mt ai_P ai_Hd ai_ML 201 := ai_my (nm := yX11_number1) rfl (by decide +kernel) rfl rfl (ai_tb (t := tX11_number1) oX11_number1)
theorem my_202 {l : Launch} (hl : l.stackTraces = false) : ai_My l ai_Mt ai_P ai_Hd ai_ML 202 := ai_my (nm := yX11_isSnow) rfl (by decide +kernel) rfl rfl (ai_tb (t := tX11_isSnow) oX11_isSnow)
theorem my_203 {l : Launch} (hl : l.stackTraces = false) : ai_My l ai_Mt ai_P ai_Hd ai_ML 203 := ai_my (nm := yX11_termOf) rfl (by decide +kernel) rfl rfl (ai_tb (t := tX11_termOf) oX11_termOf)
theorem my_204 {l : Launch} (hl : l.stackTraces = false) : ai_My l ai_Mt ai_P ai_Hd ai_ML 204 := ai_my (nm := yX11_dayGoes) rfl (by decide +kernel) rfl rfl (ai_tb (t := tX11_dayGoes) oX11_dayGoes)
theorem my_205 {l : Launch} (hl : l.stackTraces = false) : ai_My l ai_Mt ai_P ai_Hd ai_ML 205 := ai_my (nm := yX11_goMany) rfl (by decide +kernel) rfl rfl (ai_tb (t := tX11_goMany) oX11_goMany)
theorem my_206 {l : Launch} (hl : l.stackTraces = false) : ai_My l ai_Mt ai_P ai_Hd ai_ML 206 := ai_my (nm := yX11_keptMany) rfl (by decide +kernel) rfl rfl (ai_tb (t := tX11_keptMany) oX11_keptMany)
theorem my_207 {l : Launch} (hl : l.stackTraces = false) : ai_My l ai_Mt ai_P ai_Hd ai_ML 207 := ai_my (nm := yX11_fails) rfl (by decide +kernel) rfl rfl (ai_tb (t := tX11_fails) oX11_fails)
theorem my_208 {l : Launch} (hl : l.stackTraces = false) : ai_My l ai_Mt ai_P ai_Hd ai_ML 208 := ai_my (nm := yX11_path) rfl (by decide +kernel) rfl rfl (ai_tb (t := tX11_path) oX11_path)
theorem my_209 {l : Launch} (hl : l.stackTraces = false) : ai_My l ai_Mt ai_P ai_Hd ai_ML 209 := ai_my (nm := yX11_walker) rfl (by decide +kernel) rfl rfl (ai_tb (t := tX11_walker) oX11_walker)
theorem my_210 {l : Launch} (hl : l.stackTraces = false) : ai_My l ai_Mt ai_P ai_Hd ai_ML 210 := ai_my (nm := yX11_law) rfl (by decide +kernel) rfl rfl (ai_tb (t := tX11_law) oX11_law)
theorem my_211 {l : Launch} (hl : l.stackTraces = false) : ai_My l ai_Mt ai_P ai_Hd ai_ML 211 := ai_my (nm := yX11_walk) rfl (by decide +kernel) rfl rfl (ai_tb (t := tX11_walk) oX11_walk)
theorem my_212 {l : Launch} (hl : l.stackTraces = false) : ai_My l ai_Mt ai_P ai_Hd ai_ML 212 := ai_my (nm := yX11_mow) rfl (by decide +kernel) rfl rfl (ai_tb (t := tX11_mow) oX11_mow)
theorem my_213 {l : Launch} (hl : l.stackTraces = false) : ai_My l ai_Mt ai_P ai_Hd ai_ML 213 := ai_my (nm := yX11_carry) rfl (by decide +kernel) rfl rfl (ai_tb (t := tX11_carry) oX11_carry)
theorem my_214 {l : Launch} (hl : l.stackTraces = false) : ai_My l ai_Mt ai_P ai_Hd ai_ML 214 := ai_my (nm := yX11_go) rfl (by decide +kernel) rfl rfl (ai_tb (t := tX11_go) oX11_go)
theorem my_215 {l : Launch} (hl : l.stackTraces = false) : ai_My l ai_Mt ai_P ai_Hd ai_ML 215 := ai_my (nm := yX11_ahead) rfl (by decide +kernel) rfl rfl (ai_tb (t := tX11_ahead) oX11_ahead)
theorem my_216 {l : Launch} (hl : l.stackTraces = false) : ai_My l ai_Mt ai_P ai_Hd ai_ML 216 := ai_my (nm := yX11_lapse) rfl (by decide +kernel) rfl rfl (ai_tb (t := tX11_lapse) oX11_lapse)
theorem my_217 {l : Launch} (hl : l.stackTraces = false) : ai_My l ai_Mt ai_P ai_Hd ai_ML 217 := ai_my (nm := yX11_isOpen) rfl (by decide +kernel) rfl rfl (ai_tb (t := tX11_isOpen) oX11_isOpen)
theorem my_218 {l : Launch} (hl : l.stackTraces = false) : ai_My l ai_Mt ai_P ai_Hd ai_ML 218 := ai_my (nm := yX11_otherEnd) rfl (by decide +kernel) rfl rfl (ai_tb (t := tX11_otherEnd) oX11_otherEnd)
theorem my_219 {l : Launch} (hl : l.stackTraces = false) : ai_My l ai_Mt ai_P ai_Hd ai_ML 219 := ai_my (nm := yX11_takesMore) rfl (by decide +kernel) rfl rfl (ai_tb (t := tX11_takesMore) oX11_takesMore)
theorem my_220 {l : Launch} (hl : l.stackTraces = false) : ai_My l ai_Mt ai_P ai_Hd ai_ML 220 := ai_my (nm := yX11_settle) rfl (by decide +kernel) rfl rfl (ai_tb (t := tX11_settle) oX11_settle)
theorem my_221 {l : Launch} (hl : l.stackTraces = false) : ai_My l ai_Mt ai_P ai_Hd ai_ML 221 := ai_my (nm := yX11_reach) rfl (by decide +kernel) rfl rfl (ai_tb (t := tX11_reach) oX11_reach)
theorem my_222 {l : Launch} (hl : l.stackTraces = false) : ai_My l ai_Mt ai_P ai_Hd ai_ML 222 := ai_my (nm := yX11_way) rfl (by decide +kernel) rfl rfl (ai_tb (t := tX11_way) oX11_way)
theorem my_223 {l : Launch} (hl : l.stackTraces = false) : ai_My l ai_Mt ai_P ai_Hd ai_ML 223 := ai_my (nm := yX11_round) rfl (by decide +kernel) rfl rfl (ai_tb (t := tX11_round) oX11_round)
theorem my_224 {l : Launch} (hl : l.stackTraces = false) : ai_My l ai_Mt ai_P ai_Hd ai_ML 224 := ai_my (nm := yX11_layRoots) rfl (by decide +kernel) rfl rfl (ai_tb (t := tX11_layRoots) oX11_layRoots)
theorem my_225 {l : Launch} (hl : l.stackTraces = false) : ai_My l ai_Mt ai_P ai_Hd ai_ML 225 := ai_my (nm := yX11_pairsOf) rfl (by decide +kernel) rfl rfl (ai_tb (t := tX11_pairsOf) oX11_pairsOf)
theorem my_226 {l : Launch} (hl : l.stackTraces = false) : ai_My l ai_Mt ai_P ai_Hd ai_ML 226 := ai_my (nm := yX11_needed) rfl (by decide +kernel) rfl rfl (ai_tb (t := tX11_needed) oX11_needed)
theorem my_227 {l : Launch} (hl : l.stackTraces = false) : ai_My l ai_Mt ai_P ai_Hd ai_ML 227 := ai_my (nm := yX11_keptAt) rfl (by decide +kernel) rfl rfl (ai_tb (t := tX11_keptAt) oX11_keptAt)
theorem my_228 {l : Launch} (hl : l.stackTraces = false) : ai_My l ai_Mt ai_P ai_Hd ai_ML 228 := ai_my (nm := yX11_blind) rfl (by decide +kernel) rfl rfl (ai_tb (t := tX11_blind) oX11_blind)
theorem my_229 {l : Launch} (hl : l.stackTraces = false) : ai_My l ai_Mt ai_P ai_Hd ai_ML 229 := ai_my (nm := yX11_manyOf) rfl (by decide +kernel) rfl rfl (ai_tb (t := tX11_manyOf) oX11_manyOf)
theorem my_230 {l : Launch} (hl : l.stackTraces = false) : ai_My l ai_Mt ai_P ai_Hd ai_ML 230 := ai_my (nm := yX11_watch) rfl (by decide +kernel) rfl rfl (ai_tb (t := tX11_watch) oX11_watch)
theorem my_231 {l : Launch} (hl : l.stackTraces = false) : ai_My l ai_Mt ai_P ai_Hd ai_ML 231 := ai_my (nm := yX11_ageBy) rfl (by decide +kernel) rfl rfl (ai_tb (t := tX11_ageBy) oX11_ageBy)
theorem my_232 {l : Launch} (hl : l.stackTraces = false) : ai_My l ai_Mt ai_P ai_Hd ai_ML 232 := ai_my (nm := yX11_match) rfl (by decide +kernel) rfl rfl (ai_tb (t := tX11_match) oX11_match)
theorem my_233 {l : Launch} (hl : l.stackTraces = false) : ai_My l ai_Mt ai_P ai_Hd ai_ML 233 := ai_my (nm := yX11_digit) rfl (by decide +kernel) rfl rfl (ai_tb (t := tX11_digit) oX11_digit)
theorem my_234 {l : Launch} (hl : l.stackTraces = false) : ai_My l ai_Mt ai_P ai_Hd ai_ML 234 := ai_my (nm := yX11_power) rfl (by decide +kernel) rfl rfl (ai_tb (t := tX11_power) oX11_power)
theorem my_235 {l : Launch} (hl : l.stackTraces = false) : ai_My l ai_Mt ai_P ai_Hd ai_ML 235 := ai_my (nm := yX11_isLed) rfl (by decide +kernel) rfl rfl (ai_tb (t := tX11_isLed) oX11_isLed)
theorem my_236 {l : Launch} (hl : l.stackTraces = false) : ai_My l ai_Mt ai_P ai_Hd ai_ML 236 := ai_my (nm := yX11_winsBy) rfl (by decide +kernel) rfl rfl (ai_tb (t := tX11_winsBy) oX11_winsBy)
theorem my_237 {l : Launch} (hl : l.stackTraces = false) : ai_My l ai_Mt ai_P ai_Hd ai_ML 237 := ai_my (nm := yX11_layGame) rfl (by decide +kernel) rfl rfl (ai_tb (t := tX11_layGame) oX11_layGame)
theorem my_238 {l : Launch} (hl : l.stackTraces = false) : ai_My l ai_Mt ai_P ai_Hd ai_ML 238 := ai_my (nm := yX11_game) rfl (by decide +kernel) rfl rfl (ai_tb (t := tX11_game) oX11_game)
theorem my_239 {l : Launch} (hl : l.stackTraces = false) : ai_My l ai_Mt ai_P ai_Hd ai_ML 239 := ai_my (nm := yX11_hasBy) rfl (by decide +kernel) rfl rfl (ai_tb (t := tX11_hasBy) oX11_hasBy)
theorem my_240 {l : Launch} (hl : l.stackTraces = false) : ai_My l ai_Mt ai_P ai_Hd ai_ML 240 := ai_my (nm := yX11_restAt) rfl (by decide +kernel) rfl rfl (ai_tb (t := tX11_restAt) oX11_restAt)
theorem my_241 {l : Launch} (hl : l.stackTraces = false) : ai_My l ai_Mt ai_P ai_Hd ai_ML 241 := ai_my (nm := yX11_areTwo) rfl (by decide +kernel) rfl rfl (ai_tb (t := tX11_areTwo) oX11_areTwo)
theorem my_242 {l : Launch} (hl : l.stackTraces = false) : ai_My l ai_Mt ai_P ai_Hd ai_ML 242 := ai_my (nm := yX11_rests) rfl (by decide +kernel) rfl rfl (ai_tb (t := tX11_rests) oX11_rests)
theorem my_243 {l : Launch} (hl : l.stackTraces = false) : ai_My l ai_Mt ai_P ai_Hd ai_ML 243 := ai_my (nm := yX11_rest) rfl (by decide +kernel) rfl rfl (ai_tb (t := tX11_rest) oX11_rest)
theorem my_244 {l : Launch} (hl : l.stackTraces = false) : ai_My l ai_Mt ai_P ai_Hd ai_ML 244 := ai_my (nm := yX11_tries) rfl (by decide +kernel) rfl rfl (ai_tb (t := tX11_tries) oX11_tries)
theorem my_245 {l : Launch} (hl : l.stackTraces = false) : ai_My l ai_Mt ai_P ai_Hd ai_ML 245 := ai_my (nm := yX11_clear) rfl (by decide +kernel) rfl rfl (ai_tb (t := tX11_clear) oX11_clear)
theorem my_246 {l : Launch} (hl : l.stackTraces = false) : ai_My l ai_Mt ai_P ai_Hd ai_ML 246 := ai_my (nm := yX11_noted) rfl (by decide +kernel) rfl rfl (ai_tb (t := tX11_noted) oX11_noted)
theorem my_247 {l : Launch} (hl : l.stackTraces = false) : ai_My l ai_Mt ai_P ai_Hd ai_ML 247 := ai_my (nm := yX11_see) rfl (by decide +kernel) rfl rfl (ai_tb (t := tX11_see) oX11_see)
theorem my_248 {l : Launch} (hl : l.stackTraces = false) : ai_My l ai_Mt ai_P ai_Hd ai_ML 248 := ai_my (nm := yX11_strike) rfl (by decide +kernel) rfl rfl (ai_tb (t := tX11_strike) oX11_strike)
theorem my_249 {l : Launch} (hl : l.stackTraces = false) : ai_My l ai_Mt ai_P ai_Hd ai_ML 249 := ai_my (nm := yX11_known) rfl (by decide +kernel) rfl rfl (ai_tb (t := tX11_known) oX11_known)
theorem my_250 {l : Launch} (hl : l.stackTraces = false) : ai_My l ai_Mt ai_P ai_Hd ai_ML 250 := ai_my (nm := yX11_knownBy) rfl (by decide +kernel) rfl rfl (ai_tb (t := tX11_knownBy) oX11_knownBy)
theorem my_251 {l : Launch} (hl : l.stackTraces = false) : ai_My l ai_Mt ai_P ai_Hd ai_ML 251 := ai_my (nm := yX11_layCounts) rfl (by decide +kernel) rfl rfl (ai_tb (t := tX11_layCounts) oX11_layCounts)
theorem my_252 {l : Launch} (hl : l.stackTraces = false) : ai_My l ai_Mt ai_P ai_Hd ai_ML 252 := ai_my (nm := yX11_isSo) rfl (by decide +kernel) rfl rfl (ai_tb (t := tX11_isSo) oX11_isSo)
theorem my_253 {l : Launch} (hl : l.stackTraces = false) : ai_My l ai_Mt ai_P ai_Hd ai_ML 253 := ai_my (nm := yX11_layLegs) rfl (by decide +kernel) rfl rfl (ai_tb (t := tX11_layLegs) oX11_layLegs)
theorem my_254 {l : Launch} (hl : l.stackTraces = false) : ai_My l ai_Mt ai_P ai_Hd ai_ML 254 := ai_my (nm := yX11_fits) rfl (by decide +kernel) rfl rfl (ai_tb (t := tX11_fits) oX11_fits)
theorem my_255 {l : Launch} (hl : l.stackTraces = false) : ai_My l ai_Mt ai_P ai_Hd ai_ML 255 := ai_my (nm := yX11_legsBits) rfl (by decide +kernel) rfl rfl (ai_tb (t := tX11_legsBits) oX11_legsBits)
theorem my_256 {l : Launch} (hl : l.stackTraces = false) : ai_My l ai_Mt ai_P ai_Hd ai_ML 256 := ai_my (nm := yX11_legs) rfl (by decide +kernel) rfl rfl (ai_tb (t := tX11_legs) oX11_legs)
theorem my_257 {l : Launch} (hl : l.stackTraces = false) : ai_My l ai_Mt ai_P ai_Hd ai_ML 257 := ai_my (nm := yX11_sit) rfl (by decide +kernel) rfl rfl (ai_tb (t := tX11_sit) oX11_sit)
theorem my_258 {l : Launch} (hl : l.stackTraces = false) : ai_My l ai_Mt ai_P ai_Hd ai_ML 258 := ai_my (nm := yX11_chance) rfl (by decide +kernel) rfl rfl (ai_tb (t := tX11_chance) oX11_chance)
theorem my_259 {l : Launch} (hl : l.stackTraces = false) : ai_My l ai_Mt ai_P ai_Hd ai_ML 259 := ai_my (nm := yX11_tried) rfl (by decide +kernel) rfl rfl (ai_tb (t := tX11_tried) oX11_tried)
theorem my_260 {l : Launch} (hl : l.stackTraces = false) : ai_My l ai_Mt ai_P ai_Hd ai_ML 260 := ai_my (nm := yX11_put) rfl (by decide +kernel) rfl rfl (ai_tb (t := tX11_put) oX11_put)
theorem my_261 {l : Launch} (hl : l.stackTraces = false) : ai_My l ai_Mt ai_P ai_Hd ai_ML 261 := ai_my (nm := yX11_take) rfl (by decide +kernel) rfl rfl (ai_tb (t := tX11_take) oX11_take)
theorem my_262 {l : Launch} (hl : l.stackTraces = false) : ai_My l ai_Mt ai_P ai_Hd ai_ML 262 := ai_my (nm := yX11_remember) rfl (by decide +kernel) rfl rfl (ai_tb (t := tX11_remember) oX11_remember)
theorem my_263 {l : Launch} (hl : l.stackTraces = false) : ai_My l ai_Mt ai_P ai_Hd ai_ML 263 := ai_my (nm := yX11_undo) rfl (by decide +kernel) rfl rfl (ai_tb (t := tX11_undo) oX11_undo)
theorem my_264 {l : Launch} (hl : l.stackTraces = false) : ai_My l ai_Mt ai_P ai_Hd ai_ML 264 := ai_my (nm := yX11_keep) rfl (by decide +kernel) rfl rfl (ai_tb (t := tX11_keep) oX11_keep)
theorem my_265 {l : Launch} (hl : l.stackTraces = false) : ai_My l ai_Mt ai_P ai_Hd ai_ML 265 := ai_my (nm := yX11_back) rfl (by decide +kernel) rfl rfl (ai_tb (t := tX11_back) oX11_back)
theorem my_266 {l : Launch} (hl : l.stackTraces = false) : ai_My l ai_Mt ai_P ai_Hd ai_ML 266 := ai_my (nm := yX11_count) rfl (by decide +kernel) rfl rfl (ai_tb (t := tX11_count) oX11_count)
theorem my_267 {l : Launch} (hl : l.stackTraces = false) : ai_My l ai_Mt ai_P ai_Hd ai_ML 267 := ai_my (nm := yJ6_bitCount_0f7a4) rfl (by decide +kernel) rfl rfl (ai_tb (t := tJ6_bitCount_0f7a4) oJ6_bitCount_0f7a4)
theorem my_268 {l : Launch} (hl : l.stackTraces = false) : ai_My l ai_Mt ai_P ai_Hd ai_ML 268 := ai_my (nm := yJ7_fill_53178) rfl (by decide +kernel) rfl rfl (ai_tb (t := tJ7_fill_53178) oJ7_fill_53178)
theorem my_269 {l : Launch} (hl : l.stackTraces = false) : ai_My l ai_Mt ai_P ai_Hd ai_ML 269 := ai_my (nm := yX7_init) rfl (by decide +kernel) rfl rfl (ai_tb (t := tX7_init) oX7_init)
theorem my_270 {l : Launch} (hl : l.stackTraces = false) : ai_My l ai_Mt ai_P ai_Hd ai_ML 270 := ai_myW (nm := yL_path) rfl (by decide +kernel) rfl (ai_tb (t := tL_path) oL_path) ai_path_no (ai_nt_at nt_L_path) (fun p e R s m args below meth c D aC A ad0 n0 Q X ht => ai_path_hd X ht)
theorem my_59 {l : Launch} (hl : l.stackTraces = false) : ai_My l ai_Mt ai_P ai_Hd ai_ML 59 := by
  intro D aC A d ih vs hp n o he
  obtain ⟨-, k, hk⟩ := he
  exact (ai_dummy (K := ai_P 59) (fun pc => rfl) k hk).elim
theorem my_63 {l : Launch} (hl : l.stackTraces = false) : ai_My l ai_Mt ai_P ai_Hd ai_ML 63 := by
  intro D aC A d ih vs hp n o he
  obtain ⟨-, k, hk⟩ := he
  exact (ai_dummy (K := ai_P 63) (fun pc => rfl) k hk).elim
theorem al_0 {l : Launch} (hl : l.stackTraces = false) : ∀ y, y < 0 → ai_My l ai_Mt ai_P ai_Hd ai_ML y := fun y h => absurd h (Nat.not_lt_zero y)
theorem al_1 {l : Launch} (hl : l.stackTraces = false) : ∀ y, y < 1 → ai_My l ai_Mt ai_P ai_Hd ai_ML y := fun y h => (Nat.lt_or_eq_of_le (Nat.le_of_lt_succ h)).elim (al_0 hl y) (fun e => e ▸ my_0 hl)
theorem al_2 {l : Launch} (hl : l.stackTraces = false) : ∀ y, y < 2 → ai_My l ai_Mt ai_P ai_Hd ai_ML y := fun y h => (Nat.lt_or_eq_of_le (Nat.le_of_lt_succ h)).elim (al_1 hl y) (fun e => e ▸ my_1 hl)
theorem al_3 {l : Launch} (hl : l.stackTraces = false) : ∀ y, y < 3 → ai_My l ai_Mt ai_P ai_Hd ai_ML y := fun y h => (Nat.lt_or_eq_of_le (Nat.le_of_lt_succ h)).elim (al_2 hl y) (fun e => e ▸ my_2 hl)
theorem al_4 {l : Launch} (hl : l.stackTraces = false) : ∀ y, y < 4 → ai_My l ai_Mt ai_P ai_Hd ai_ML y := fun y h => (Nat.lt_or_eq_of_le (Nat.le_of_lt_succ h)).elim (al_3 hl y) (fun e => e ▸ my_3 hl)
theorem al_5 {l : Launch} (hl : l.stackTraces = false) : ∀ y, y < 5 → ai_My l ai_Mt ai_P ai_Hd ai_ML y := fun y h => (Nat.lt_or_eq_of_le (Nat.le_of_lt_succ h)).elim (al_4 hl y) (fun e => e ▸ my_4 hl)
theorem al_6 {l : Launch} (hl : l.stackTraces = false) : ∀ y, y < 6 → ai_My l ai_Mt ai_P ai_Hd ai_ML y := fun y h => (Nat.lt_or_eq_of_le (Nat.le_of_lt_succ h)).elim (al_5 hl y) (fun e => e ▸ my_5 hl)
theorem al_7 {l : Launch} (hl : l.stackTraces = false) : ∀ y, y < 7 → ai_My l ai_Mt ai_P ai_Hd ai_ML y := fun y h => (Nat.lt_or_eq_of_le (Nat.le_of_lt_succ h)).elim (al_6 hl y) (fun e => e ▸ my_6 hl)
theorem al_8 {l : Launch} (hl : l.stackTraces = false) : ∀ y, y < 8 → ai_My l ai_Mt ai_P ai_Hd ai_ML y := fun y h => (Nat.lt_or_eq_of_le (Nat.le_of_lt_succ h)).elim (al_7 hl y) (fun e => e ▸ my_7 hl)
theorem al_9 {l : Launch} (hl : l.stackTraces = false) : ∀ y, y < 9 → ai_My l ai_Mt ai_P ai_Hd ai_ML y := fun y h => (Nat.lt_or_eq_of_le (Nat.le_of_lt_succ h)).elim (al_8 hl y) (fun e => e ▸ my_8 hl)
theorem al_10 {l : Launch} (hl : l.stackTraces = false) : ∀ y, y < 10 → ai_My l ai_Mt ai_P ai_Hd ai_ML y := fun y h => (Nat.lt_or_eq_of_le (Nat.le_of_lt_succ h)).elim (al_9 hl y) (fun e => e ▸ my_9 hl)
theorem al_11 {l : Launch} (hl : l.stackTraces = false) : ∀ y, y < 11 → ai_My l ai_Mt ai_P ai_Hd ai_ML y := fun y h => (Nat.lt_or_eq_of_le (Nat.le_of_lt_succ h)).elim (al_10 hl y) (fun e => e ▸ my_10 hl)
theorem al_12 {l : Launch} (hl : l.stackTraces = false) : ∀ y, y < 12 → ai_My l ai_Mt ai_P ai_Hd ai_ML y := fun y h => (Nat.lt_or_eq_of_le (Nat.le_of_lt_succ h)).elim (al_11 hl y) (fun e => e ▸ my_11 hl)
theorem al_13 {l : Launch} (hl : l.stackTraces = false) : ∀ y, y < 13 → ai_My l ai_Mt ai_P ai_Hd ai_ML y := fun y h => (Nat.lt_or_eq_of_le (Nat.le_of_lt_succ h)).elim (al_12 hl y) (fun e => e ▸ my_12 hl)
theorem al_14 {l : Launch} (hl : l.stackTraces = false) : ∀ y, y < 14 → ai_My l ai_Mt ai_P ai_Hd ai_ML y := fun y h => (Nat.lt_or_eq_of_le (Nat.le_of_lt_succ h)).elim (al_13 hl y) (fun e => e ▸ my_13 hl)
theorem al_15 {l : Launch} (hl : l.stackTraces = false) : ∀ y, y < 15 → ai_My l ai_Mt ai_P ai_Hd ai_ML y := fun y h => (Nat.lt_or_eq_of_le (Nat.le_of_lt_succ h)).elim (al_14 hl y) (fun e => e ▸ my_14 hl)
theorem al_16 {l : Launch} (hl : l.stackTraces = false) : ∀ y, y < 16 → ai_My l ai_Mt ai_P ai_Hd ai_ML y := fun y h => (Nat.lt_or_eq_of_le (Nat.le_of_lt_succ h)).elim (al_15 hl y) (fun e => e ▸ my_15 hl)
theorem al_17 {l : Launch} (hl : l.stackTraces = false) : ∀ y, y < 17 → ai_My l ai_Mt ai_P ai_Hd ai_ML y := fun y h => (Nat.lt_or_eq_of_le (Nat.le_of_lt_succ h)).elim (al_16 hl y) (fun e => e ▸ my_16 hl)
theorem al_18 {l : Launch} (hl : l.stackTraces = false) : ∀ y, y < 18 → ai_My l ai_Mt ai_P ai_Hd ai_ML y := fun y h => (Nat.lt_or_eq_of_le (Nat.le_of_lt_succ h)).elim (al_17 hl y) (fun e => e ▸ my_17 hl)
theorem al_19 {l : Launch} (hl : l.stackTraces = false) : ∀ y, y < 19 → ai_My l ai_Mt ai_P ai_Hd ai_ML y := fun y h => (Nat.lt_or_eq_of_le (Nat.le_of_lt_succ h)).elim (al_18 hl y) (fun e => e ▸ my_18 hl)
theorem al_20 {l : Launch} (hl : l.stackTraces = false) : ∀ y, y < 20 → ai_My l ai_Mt ai_P ai_Hd ai_ML y := fun y h => (Nat.lt_or_eq_of_le (Nat.le_of_lt_succ h)).elim (al_19 hl y) (fun e => e ▸ my_19 hl)
theorem al_21 {l : Launch} (hl : l.stackTraces = false) : ∀ y, y < 21 → ai_My l ai_Mt ai_P ai_Hd ai_ML y := fun y h => (Nat.lt_or_eq_of_le (Nat.le_of_lt_succ h)).elim (al_20 hl y) (fun e => e ▸ my_20 hl)
theorem al_22 {l : Launch} (hl : l.stackTraces = false) : ∀ y, y < 22 → ai_My l ai_Mt ai_P ai_Hd ai_ML y := fun y h => (Nat.lt_or_eq_of_le (Nat.le_of_lt_succ h)).elim (al_21 hl y) (fun e => e ▸ my_21 hl)
theorem al_23 {l : Launch} (hl : l.stackTraces = false) : ∀ y, y < 23 → ai_My l ai_Mt ai_P ai_Hd ai_ML y := fun y h => (Nat.lt_or_eq_of_le (Nat.le_of_lt_succ h)).elim (al_22 hl y) (fun e => e ▸ my_22 hl)
theorem al_24 {l : Launch} (hl : l.stackTraces = false) : ∀ y, y < 24 → ai_My l ai_Mt ai_P ai_Hd ai_ML y := fun y h => (Nat.lt_or_eq_of_le (Nat.le_of_lt_succ h)).elim (al_23 hl y) (fun e => e ▸ my_23 hl)
theorem al_25 {l : Launch} (hl : l.stackTraces = false) : ∀ y, y < 25 → ai_My l ai_Mt ai_P ai_Hd ai_ML y := fun y h => (Nat.lt_or_eq_of_le (Nat.le_of_lt_succ h)).elim (al_24 hl y) (fun e => e ▸ my_24 hl)
theorem al_26 {l : Launch} (hl : l.stackTraces = false) : ∀ y, y < 26 → ai_My l ai_Mt ai_P ai_Hd ai_ML y := fun y h => (Nat.lt_or_eq_of_le (Nat.le_of_lt_succ h)).elim (al_25 hl y) (fun e => e ▸ my_25 hl)
theorem al_27 {l : Launch} (hl : l.stackTraces = false) : ∀ y, y < 27 → ai_My l ai_Mt ai_P ai_Hd ai_ML y := fun y h => (Nat.lt_or_eq_of_le (Nat.le_of_lt_succ h)).elim (al_26 hl y) (fun e => e ▸ my_26 hl)
theorem al_28 {l : Launch} (hl : l.stackTraces = false) : ∀ y, y < 28 → ai_My l ai_Mt ai_P ai_Hd ai_ML y := fun y h => (Nat.lt_or_eq_of_le (Nat.le_of_lt_succ h)).elim (al_27 hl y) (fun e => e ▸ my_27 hl)
theorem al_29 {l : Launch} (hl : l.stackTraces = false) : ∀ y, y < 29 → ai_My l ai_Mt ai_P ai_Hd ai_ML y := fun y h => (Nat.lt_or_eq_of_le (Nat.le_of_lt_succ h)).elim (al_28 hl y) (fun e => e ▸ my_28 hl)
theorem al_30 {l : Launch} (hl : l.stackTraces = false) : ∀ y, y < 30 → ai_My l ai_Mt ai_P ai_Hd ai_ML y := fun y h => (Nat.lt_or_eq_of_le (Nat.le_of_lt_succ h)).elim (al_29 hl y) (fun e => e ▸ my_29 hl)
theorem al_31 {l : Launch} (hl : l.stackTraces = false) : ∀ y, y < 31 → ai_My l ai_Mt ai_P ai_Hd ai_ML y := fun y h => (Nat.lt_or_eq_of_le (Nat.le_of_lt_succ h)).elim (al_30 hl y) (fun e => e ▸ my_30 hl)
theorem al_32 {l : Launch} (hl : l.stackTraces = false) : ∀ y, y < 32 → ai_My l ai_Mt ai_P ai_Hd ai_ML y := fun y h => (Nat.lt_or_eq_of_le (Nat.le_of_lt_succ h)).elim (al_31 hl y) (fun e => e ▸ my_31 hl)
theorem al_33 {l : Launch} (hl : l.stackTraces = false) : ∀ y, y < 33 → ai_My l ai_Mt ai_P ai_Hd ai_ML y := fun y h => (Nat.lt_or_eq_of_le (Nat.le_of_lt_succ h)).elim (al_32 hl y) (fun e => e ▸ my_32 hl)
theorem al_34 {l : Launch} (hl : l.stackTraces = false) : ∀ y, y < 34 → ai_My l ai_Mt ai_P ai_Hd ai_ML y := fun y h => (Nat.lt_or_eq_of_le (Nat.le_of_lt_succ h)).elim (al_33 hl y) (fun e => e ▸ my_33 hl)
theorem al_35 {l : Launch} (hl : l.stackTraces = false) : ∀ y, y < 35 → ai_My l ai_Mt ai_P ai_Hd ai_ML y := fun y h => (Nat.lt_or_eq_of_le (Nat.le_of_lt_succ h)).elim (al_34 hl y) (fun e => e ▸ my_34 hl)
theorem al_36 {l : Launch} (hl : l.stackTraces = false) : ∀ y, y < 36 → ai_My l ai_Mt ai_P ai_Hd ai_ML y := fun y h => (Nat.lt_or_eq_of_le (Nat.le_of_lt_succ h)).elim (al_35 hl y) (fun e => e ▸ my_35 hl)
theorem al_37 {l : Launch} (hl : l.stackTraces = false) : ∀ y, y < 37 → ai_My l ai_Mt ai_P ai_Hd ai_ML y := fun y h => (Nat.lt_or_eq_of_le (Nat.le_of_lt_succ h)).elim (al_36 hl y) (fun e => e ▸ my_36 hl)
theorem al_38 {l : Launch} (hl : l.stackTraces = false) : ∀ y, y < 38 → ai_My l ai_Mt ai_P ai_Hd ai_ML y := fun y h => (Nat.lt_or_eq_of_le (Nat.le_of_lt_succ h)).elim (al_37 hl y) (fun e => e ▸ my_37 hl)
theorem al_39 {l : Launch} (hl : l.stackTraces = false) : ∀ y, y < 39 → ai_My l ai_Mt ai_P ai_Hd ai_ML y := fun y h => (Nat.lt_or_eq_of_le (Nat.le_of_lt_succ h)).elim (al_38 hl y) (fun e => e ▸ my_38 hl)
theorem al_40 {l : Launch} (hl : l.stackTraces = false) : ∀ y, y < 40 → ai_My l ai_Mt ai_P ai_Hd ai_ML y := fun y h => (Nat.lt_or_eq_of_le (Nat.le_of_lt_succ h)).elim (al_39 hl y) (fun e => e ▸ my_39 hl)
theorem al_41 {l : Launch} (hl : l.stackTraces = false) : ∀ y, y < 41 → ai_My l ai_Mt ai_P ai_Hd ai_ML y := fun y h => (Nat.lt_or_eq_of_le (Nat.le_of_lt_succ h)).elim (al_40 hl y) (fun e => e ▸ my_40 hl)
theorem al_42 {l : Launch} (hl : l.stackTraces = false) : ∀ y, y < 42 → ai_My l ai_Mt ai_P ai_Hd ai_ML y := fun y h => (Nat.lt_or_eq_of_le (Nat.le_of_lt_succ h)).elim (al_41 hl y) (fun e => e ▸ my_41 hl)
theorem al_43 {l : Launch} (hl : l.stackTraces = false) : ∀ y, y < 43 → ai_My l ai_Mt ai_P ai_Hd ai_ML y := fun y h => (Nat.lt_or_eq_of_le (Nat.le_of_lt_succ h)).elim (al_42 hl y) (fun e => e ▸ my_42 hl)
theorem al_44 {l : Launch} (hl : l.stackTraces = false) : ∀ y, y < 44 → ai_My l ai_Mt ai_P ai_Hd ai_ML y := fun y h => (Nat.lt_or_eq_of_le (Nat.le_of_lt_succ h)).elim (al_43 hl y) (fun e => e ▸ my_43 hl)
theorem al_45 {l : Launch} (hl : l.stackTraces = false) : ∀ y, y < 45 → ai_My l ai_Mt ai_P ai_Hd ai_ML y := fun y h => (Nat.lt_or_eq_of_le (Nat.le_of_lt_succ h)).elim (al_44 hl y) (fun e => e ▸ my_44 hl)
theorem al_46 {l : Launch} (hl : l.stackTraces = false) : ∀ y, y < 46 → ai_My l ai_Mt ai_P ai_Hd ai_ML y := fun y h => (Nat.lt_or_eq_of_le (Nat.le_of_lt_succ h)).elim (al_45 hl y) (fun e => e ▸ my_45 hl)
theorem al_47 {l : Launch} (hl : l.stackTraces = false) : ∀ y, y < 47 → ai_My l ai_Mt ai_P ai_Hd ai_ML y := fun y h => (Nat.lt_or_eq_of_le (Nat.le_of_lt_succ h)).elim (al_46 hl y) (fun e => e ▸ my_46 hl)
theorem al_48 {l : Launch} (hl : l.stackTraces = false) : ∀ y, y < 48 → ai_My l ai_Mt ai_P ai_Hd ai_ML y := fun y h => (Nat.lt_or_eq_of_le (Nat.le_of_lt_succ h)).elim (al_47 hl y) (fun e => e ▸ my_47 hl)
theorem al_49 {l : Launch} (hl : l.stackTraces = false) : ∀ y, y < 49 → ai_My l ai_Mt ai_P ai_Hd ai_ML y := fun y h => (Nat.lt_or_eq_of_le (Nat.le_of_lt_succ h)).elim (al_48 hl y) (fun e => e ▸ my_48 hl)
theorem al_50 {l : Launch} (hl : l.stackTraces = false) : ∀ y, y < 50 → ai_My l ai_Mt ai_P ai_Hd ai_ML y := fun y h => (Nat.lt_or_eq_of_le (Nat.le_of_lt_succ h)).elim (al_49 hl y) (fun e => e ▸ my_49 hl)
theorem al_51 {l : Launch} (hl : l.stackTraces = false) : ∀ y, y < 51 → ai_My l ai_Mt ai_P ai_Hd ai_ML y := fun y h => (Nat.lt_or_eq_of_le (Nat.le_of_lt_succ h)).elim (al_50 hl y) (fun e => e ▸ my_50 hl)
theorem al_52 {l : Launch} (hl : l.stackTraces = false) : ∀ y, y < 52 → ai_My l ai_Mt ai_P ai_Hd ai_ML y := fun y h => (Nat.lt_or_eq_of_le (Nat.le_of_lt_succ h)).elim (al_51 hl y) (fun e => e ▸ my_51 hl)
theorem al_53 {l : Launch} (hl : l.stackTraces = false) : ∀ y, y < 53 → ai_My l ai_Mt ai_P ai_Hd ai_ML y := fun y h => (Nat.lt_or_eq_of_le (Nat.le_of_lt_succ h)).elim (al_52 hl y) (fun e => e ▸ my_52 hl)
theorem al_54 {l : Launch} (hl : l.stackTraces = false) : ∀ y, y < 54 → ai_My l ai_Mt ai_P ai_Hd ai_ML y := fun y h => (Nat.lt_or_eq_of_le (Nat.le_of_lt_succ h)).elim (al_53 hl y) (fun e => e ▸ my_53 hl)
theorem al_55 {l : Launch} (hl : l.stackTraces = false) : ∀ y, y < 55 → ai_My l ai_Mt ai_P ai_Hd ai_ML y := fun y h => (Nat.lt_or_eq_of_le (Nat.le_of_lt_succ h)).elim (al_54 hl y) (fun e => e ▸ my_54 hl)
theorem al_56 {l : Launch} (hl : l.stackTraces = false) : ∀ y, y < 56 → ai_My l ai_Mt ai_P ai_Hd ai_ML y := fun y h => (Nat.lt_or_eq_of_le (Nat.le_of_lt_succ h)).elim (al_55 hl y) (fun e => e ▸ my_55 hl)
theorem al_57 {l : Launch} (hl : l.stackTraces = false) : ∀ y, y < 57 → ai_My l ai_Mt ai_P ai_Hd ai_ML y := fun y h => (Nat.lt_or_eq_of_le (Nat.le_of_lt_succ h)).elim (al_56 hl y) (fun e => e ▸ my_56 hl)
theorem al_58 {l : Launch} (hl : l.stackTraces = false) : ∀ y, y < 58 → ai_My l ai_Mt ai_P ai_Hd ai_ML y := fun y h => (Nat.lt_or_eq_of_le (Nat.le_of_lt_succ h)).elim (al_57 hl y) (fun e => e ▸ my_57 hl)
theorem al_59 {l : Launch} (hl : l.stackTraces = false) : ∀ y, y < 59 → ai_My l ai_Mt ai_P ai_Hd ai_ML y := fun y h => (Nat.lt_or_eq_of_le (Nat.le_of_lt_succ h)).elim (al_58 hl y) (fun e => e ▸ my_58 hl)
theorem al_60 {l : Launch} (hl : l.stackTraces = false) : ∀ y, y < 60 → ai_My l ai_Mt ai_P ai_Hd ai_ML y := fun y h => (Nat.lt_or_eq_of_le (Nat.le_of_lt_succ h)).elim (al_59 hl y) (fun e => e ▸ my_59 hl)
theorem al_61 {l : Launch} (hl : l.stackTraces = false) : ∀ y, y < 61 → ai_My l ai_Mt ai_P ai_Hd ai_ML y := fun y h => (Nat.lt_or_eq_of_le (Nat.le_of_lt_succ h)).elim (al_60 hl y) (fun e => e ▸ my_60 hl)
theorem al_62 {l : Launch} (hl : l.stackTraces = false) : ∀ y, y < 62 → ai_My l ai_Mt ai_P ai_Hd ai_ML y := fun y h => (Nat.lt_or_eq_of_le (Nat.le_of_lt_succ h)).elim (al_61 hl y) (fun e => e ▸ my_61 hl)
theorem al_63 {l : Launch} (hl : l.stackTraces = false) : ∀ y, y < 63 → ai_My l ai_Mt ai_P ai_Hd ai_ML y := fun y h => (Nat.lt_or_eq_of_le (Nat.le_of_lt_succ h)).elim (al_62 hl y) (fun e => e ▸ my_62 hl)
theorem al_64 {l : Launch} (hl : l.stackTraces = false) : ∀ y, y < 64 → ai_My l ai_Mt ai_P ai_Hd ai_ML y := fun y h => (Nat.lt_or_eq_of_le (Nat.le_of_lt_succ h)).elim (al_63 hl y) (fun e => e ▸ my_63 hl)
theorem al_65 {l : Launch} (hl : l.stackTraces = false) : ∀ y, y < 65 → ai_My l ai_Mt ai_P ai_Hd ai_ML y := fun y h => (Nat.lt_or_eq_of_le (Nat.le_of_lt_succ h)).elim (al_64 hl y) (fun e => e ▸ my_64 hl)
theorem al_66 {l : Launch} (hl : l.stackTraces = false) : ∀ y, y < 66 → ai_My l ai_Mt ai_P ai_Hd ai_ML y := fun y h => (Nat.lt_or_eq_of_le (Nat.le_of_lt_succ h)).elim (al_65 hl y) (fun e => e ▸ my_65 hl)
theorem al_67 {l : Launch} (hl : l.stackTraces = false) : ∀ y, y < 67 → ai_My l ai_Mt ai_P ai_Hd ai_ML y := fun y h => (Nat.lt_or_eq_of_le (Nat.le_of_lt_succ h)).elim (al_66 hl y) (fun e => e ▸ my_66 hl)
theorem al_68 {l : Launch} (hl : l.stackTraces = false) : ∀ y, y < 68 → ai_My l ai_Mt ai_P ai_Hd ai_ML y := fun y h => (Nat.lt_or_eq_of_le (Nat.le_of_lt_succ h)).elim (al_67 hl y) (fun e => e ▸ my_67 hl)
theorem al_69 {l : Launch} (hl : l.stackTraces = false) : ∀ y, y < 69 → ai_My l ai_Mt ai_P ai_Hd ai_ML y := fun y h => (Nat.lt_or_eq_of_le (Nat.le_of_lt_succ h)).elim (al_68 hl y) (fun e => e ▸ my_68 hl)
theorem al_70 {l : Launch} (hl : l.stackTraces = false) : ∀ y, y < 70 → ai_My l ai_Mt ai_P ai_Hd ai_ML y := fun y h => (Nat.lt_or_eq_of_le (Nat.le_of_lt_succ h)).elim (al_69 hl y) (fun e => e ▸ my_69 hl)
theorem al_71 {l : Launch} (hl : l.stackTraces = false) : ∀ y, y < 71 → ai_My l ai_Mt ai_P ai_Hd ai_ML y := fun y h => (Nat.lt_or_eq_of_le (Nat.le_of_lt_succ h)).elim (al_70 hl y) (fun e => e ▸ my_70 hl)
theorem al_72 {l : Launch} (hl : l.stackTraces = false) : ∀ y, y < 72 → ai_My l ai_Mt ai_P ai_Hd ai_ML y := fun y h => (Nat.lt_or_eq_of_le (Nat.le_of_lt_succ h)).elim (al_71 hl y) (fun e => e ▸ my_71 hl)
theorem al_73 {l : Launch} (hl : l.stackTraces = false) : ∀ y, y < 73 → ai_My l ai_Mt ai_P ai_Hd ai_ML y := fun y h => (Nat.lt_or_eq_of_le (Nat.le_of_lt_succ h)).elim (al_72 hl y) (fun e => e ▸ my_72 hl)
theorem al_74 {l : Launch} (hl : l.stackTraces = false) : ∀ y, y < 74 → ai_My l ai_Mt ai_P ai_Hd ai_ML y := fun y h => (Nat.lt_or_eq_of_le (Nat.le_of_lt_succ h)).elim (al_73 hl y) (fun e => e ▸ my_73 hl)
theorem al_75 {l : Launch} (hl : l.stackTraces = false) : ∀ y, y < 75 → ai_My l ai_Mt ai_P ai_Hd ai_ML y := fun y h => (Nat.lt_or_eq_of_le (Nat.le_of_lt_succ h)).elim (al_74 hl y) (fun e => e ▸ my_74 hl)
theorem al_76 {l : Launch} (hl : l.stackTraces = false) : ∀ y, y < 76 → ai_My l ai_Mt ai_P ai_Hd ai_ML y := fun y h => (Nat.lt_or_eq_of_le (Nat.le_of_lt_succ h)).elim (al_75 hl y) (fun e => e ▸ my_75 hl)
theorem al_77 {l : Launch} (hl : l.stackTraces = false) : ∀ y, y < 77 → ai_My l ai_Mt ai_P ai_Hd ai_ML y := fun y h => (Nat.lt_or_eq_of_le (Nat.le_of_lt_succ h)).elim (al_76 hl y) (fun e => e ▸ my_76 hl)
theorem al_78 {l : Launch} (hl : l.stackTraces = false) : ∀ y, y < 78 → ai_My l ai_Mt ai_P ai_Hd ai_ML y := fun y h => (Nat.lt_or_eq_of_le (Nat.le_of_lt_succ h)).elim (al_77 hl y) (fun e => e ▸ my_77 hl)
theorem al_79 {l : Launch} (hl : l.stackTraces = false) : ∀ y, y < 79 → ai_My l ai_Mt ai_P ai_Hd ai_ML y := fun y h => (Nat.lt_or_eq_of_le (Nat.le_of_lt_succ h)).elim (al_78 hl y) (fun e => e ▸ my_78 hl)
theorem al_80 {l : Launch} (hl : l.stackTraces = false) : ∀ y, y < 80 → ai_My l ai_Mt ai_P ai_Hd ai_ML y := fun y h => (Nat.lt_or_eq_of_le (Nat.le_of_lt_succ h)).elim (al_79 hl y) (fun e => e ▸ my_79 hl)
theorem al_81 {l : Launch} (hl : l.stackTraces = false) : ∀ y, y < 81 → ai_My l ai_Mt ai_P ai_Hd ai_ML y := fun y h => (Nat.lt_or_eq_of_le (Nat.le_of_lt_succ h)).elim (al_80 hl y) (fun e => e ▸ my_80 hl)
theorem al_82 {l : Launch} (hl : l.stackTraces = false) : ∀ y, y < 82 → ai_My l ai_Mt ai_P ai_Hd ai_ML y := fun y h => (Nat.lt_or_eq_of_le (Nat.le_of_lt_succ h)).elim (al_81 hl y) (fun e => e ▸ my_81 hl)
theorem al_83 {l : Launch} (hl : l.stackTraces = false) : ∀ y, y < 83 → ai_My l ai_Mt ai_P ai_Hd ai_ML y := fun y h => (Nat.lt_or_eq_of_le (Nat.le_of_lt_succ h)).elim (al_82 hl y) (fun e => e ▸ my_82 hl)
theorem al_84 {l : Launch} (hl : l.stackTraces = false) : ∀ y, y < 84 → ai_My l ai_Mt ai_P ai_Hd ai_ML y := fun y h => (Nat.lt_or_eq_of_le (Nat.le_of_lt_succ h)).elim (al_83 hl y) (fun e => e ▸ my_83 hl)
theorem al_85 {l : Launch} (hl : l.stackTraces = false) : ∀ y, y < 85 → ai_My l ai_Mt ai_P ai_Hd ai_ML y := fun y h => (Nat.lt_or_eq_of_le (Nat.le_of_lt_succ h)).elim (al_84 hl y) (fun e => e ▸ my_84 hl)
theorem al_86 {l : Launch} (hl : l.stackTraces = false) : ∀ y, y < 86 → ai_My l ai_Mt ai_P ai_Hd ai_ML y := fun y h => (Nat.lt_or_eq_of_le (Nat.le_of_lt_succ h)).elim (al_85 hl y) (fun e => e ▸ my_85 hl)
theorem al_87 {l : Launch} (hl : l.stackTraces = false) : ∀ y, y < 87 → ai_My l ai_Mt ai_P ai_Hd ai_ML y := fun y h => (Nat.lt_or_eq_of_le (Nat.le_of_lt_succ h)).elim (al_86 hl y) (fun e => e ▸ my_86 hl)
theorem al_88 {l : Launch} (hl : l.stackTraces = false) : ∀ y, y < 88 → ai_My l ai_Mt ai_P ai_Hd ai_ML y := fun y h => (Nat.lt_or_eq_of_le (Nat.le_of_lt_succ h)).elim (al_87 hl y) (fun e => e ▸ my_87 hl)
theorem al_89 {l : Launch} (hl : l.stackTraces = false) : ∀ y, y < 89 → ai_My l ai_Mt ai_P ai_Hd ai_ML y := fun y h => (Nat.lt_or_eq_of_le (Nat.le_of_lt_succ h)).elim (al_88 hl y) (fun e => e ▸ my_88 hl)
theorem al_90 {l : Launch} (hl : l.stackTraces = false) : ∀ y, y < 90 → ai_My l ai_Mt ai_P ai_Hd ai_ML y := fun y h => (Nat.lt_or_eq_of_le (Nat.le_of_lt_succ h)).elim (al_89 hl y) (fun e => e ▸ my_89 hl)
theorem al_91 {l : Launch} (hl : l.stackTraces = false) : ∀ y, y < 91 → ai_My l ai_Mt ai_P ai_Hd ai_ML y := fun y h => (Nat.lt_or_eq_of_le (Nat.le_of_lt_succ h)).elim (al_90 hl y) (fun e => e ▸ my_90 hl)
theorem al_92 {l : Launch} (hl : l.stackTraces = false) : ∀ y, y < 92 → ai_My l ai_Mt ai_P ai_Hd ai_ML y := fun y h => (Nat.lt_or_eq_of_le (Nat.le_of_lt_succ h)).elim (al_91 hl y) (fun e => e ▸ my_91 hl)
theorem al_93 {l : Launch} (hl : l.stackTraces = false) : ∀ y, y < 93 → ai_My l ai_Mt ai_P ai_Hd ai_ML y := fun y h => (Nat.lt_or_eq_of_le (Nat.le_of_lt_succ h)).elim (al_92 hl y) (fun e => e ▸ my_92 hl)
theorem al_94 {l : Launch} (hl : l.stackTraces = false) : ∀ y, y < 94 → ai_My l ai_Mt ai_P ai_Hd ai_ML y := fun y h => (Nat.lt_or_eq_of_le (Nat.le_of_lt_succ h)).elim (al_93 hl y) (fun e => e ▸ my_93 hl)
theorem al_95 {l : Launch} (hl : l.stackTraces = false) : ∀ y, y < 95 → ai_My l ai_Mt ai_P ai_Hd ai_ML y := fun y h => (Nat.lt_or_eq_of_le (Nat.le_of_lt_succ h)).elim (al_94 hl y) (fun e => e ▸ my_94 hl)
theorem al_96 {l : Launch} (hl : l.stackTraces = false) : ∀ y, y < 96 → ai_My l ai_Mt ai_P ai_Hd ai_ML y := fun y h => (Nat.lt_or_eq_of_le (Nat.le_of_lt_succ h)).elim (al_95 hl y) (fun e => e ▸ my_95 hl)
theorem al_97 {l : Launch} (hl : l.stackTraces = false) : ∀ y, y < 97 → ai_My l ai_Mt ai_P ai_Hd ai_ML y := fun y h => (Nat.lt_or_eq_of_le (Nat.le_of_lt_succ h)).elim (al_96 hl y) (fun e => e ▸ my_96 hl)
theorem al_98 {l : Launch} (hl : l.stackTraces = false) : ∀ y, y < 98 → ai_My l ai_Mt ai_P ai_Hd ai_ML y := fun y h => (Nat.lt_or_eq_of_le (Nat.le_of_lt_succ h)).elim (al_97 hl y) (fun e => e ▸ my_97 hl)
theorem al_99 {l : Launch} (hl : l.stackTraces = false) : ∀ y, y < 99 → ai_My l ai_Mt ai_P ai_Hd ai_ML y := fun y h => (Nat.lt_or_eq_of_le (Nat.le_of_lt_succ h)).elim (al_98 hl y) (fun e => e ▸ my_98 hl)
theorem al_100 {l : Launch} (hl : l.stackTraces = false) : ∀ y, y < 100 → ai_My l ai_Mt ai_P ai_Hd ai_ML y := fun y h => (Nat.lt_or_eq_of_le (Nat.le_of_lt_succ h)).elim (al_99 hl y) (fun e => e ▸ my_99 hl)
theorem al_101 {l : Launch} (hl : l.stackTraces = false) : ∀ y, y < 101 → ai_My l ai_Mt ai_P ai_Hd ai_ML y := fun y h => (Nat.lt_or_eq_of_le (Nat.le_of_lt_succ h)).elim (al_100 hl y) (fun e => e ▸ my_100 hl)
theorem al_102 {l : Launch} (hl : l.stackTraces = false) : ∀ y, y < 102 → ai_My l ai_Mt ai_P ai_Hd ai_ML y := fun y h => (Nat.lt_or_eq_of_le (Nat.le_of_lt_succ h)).elim (al_101 hl y) (fun e => e ▸ my_101 hl)
theorem al_103 {l : Launch} (hl : l.stackTraces = false) : ∀ y, y < 103 → ai_My l ai_Mt ai_P ai_Hd ai_ML y := fun y h => (Nat.lt_or_eq_of_le (Nat.le_of_lt_succ h)).elim (al_102 hl y) (fun e => e ▸ my_102 hl)
theorem al_104 {l : Launch} (hl : l.stackTraces = false) : ∀ y, y < 104 → ai_My l ai_Mt ai_P ai_Hd ai_ML y := fun y h => (Nat.lt_or_eq_of_le (Nat.le_of_lt_succ h)).elim (al_103 hl y) (fun e => e ▸ my_103 hl)
theorem al_105 {l : Launch} (hl : l.stackTraces = false) : ∀ y, y < 105 → ai_My l ai_Mt ai_P ai_Hd ai_ML y := fun y h => (Nat.lt_or_eq_of_le (Nat.le_of_lt_succ h)).elim (al_104 hl y) (fun e => e ▸ my_104 hl)
theorem al_106 {l : Launch} (hl : l.stackTraces = false) : ∀ y, y < 106 → ai_My l ai_Mt ai_P ai_Hd ai_ML y := fun y h => (Nat.lt_or_eq_of_le (Nat.le_of_lt_succ h)).elim (al_105 hl y) (fun e => e ▸ my_105 hl)
theorem al_107 {l : Launch} (hl : l.stackTraces = false) : ∀ y, y < 107 → ai_My l ai_Mt ai_P ai_Hd ai_ML y := fun y h => (Nat.lt_or_eq_of_le (Nat.le_of_lt_succ h)).elim (al_106 hl y) (fun e => e ▸ my_106 hl)
theorem al_108 {l : Launch} (hl : l.stackTraces = false) : ∀ y, y < 108 → ai_My l ai_Mt ai_P ai_Hd ai_ML y := fun y h => (Nat.lt_or_eq_of_le (Nat.le_of_lt_succ h)).elim (al_107 hl y) (fun e => e ▸ my_107 hl)
theorem al_109 {l : Launch} (hl : l.stackTraces = false) : ∀ y, y < 109 → ai_My l ai_Mt ai_P ai_Hd ai_ML y := fun y h => (Nat.lt_or_eq_of_le (Nat.le_of_lt_succ h)).elim (al_108 hl y) (fun e => e ▸ my_108 hl)
theorem al_110 {l : Launch} (hl : l.stackTraces = false) : ∀ y, y < 110 → ai_My l ai_Mt ai_P ai_Hd ai_ML y := fun y h => (Nat.lt_or_eq_of_le (Nat.le_of_lt_succ h)).elim (al_109 hl y) (fun e => e ▸ my_109 hl)
theorem al_111 {l : Launch} (hl : l.stackTraces = false) : ∀ y, y < 111 → ai_My l ai_Mt ai_P ai_Hd ai_ML y := fun y h => (Nat.lt_or_eq_of_le (Nat.le_of_lt_succ h)).elim (al_110 hl y) (fun e => e ▸ my_110 hl)
theorem al_112 {l : Launch} (hl : l.stackTraces = false) : ∀ y, y < 112 → ai_My l ai_Mt ai_P ai_Hd ai_ML y := fun y h => (Nat.lt_or_eq_of_le (Nat.le_of_lt_succ h)).elim (al_111 hl y) (fun e => e ▸ my_111 hl)
theorem al_113 {l : Launch} (hl : l.stackTraces = false) : ∀ y, y < 113 → ai_My l ai_Mt ai_P ai_Hd ai_ML y := fun y h => (Nat.lt_or_eq_of_le (Nat.le_of_lt_succ h)).elim (al_112 hl y) (fun e => e ▸ my_112 hl)
theorem al_114 {l : Launch} (hl : l.stackTraces = false) : ∀ y, y < 114 → ai_My l ai_Mt ai_P ai_Hd ai_ML y := fun y h => (Nat.lt_or_eq_of_le (Nat.le_of_lt_succ h)).elim (al_113 hl y) (fun e => e ▸ my_113 hl)
theorem al_115 {l : Launch} (hl : l.stackTraces = false) : ∀ y, y < 115 → ai_My l ai_Mt ai_P ai_Hd ai_ML y := fun y h => (Nat.lt_or_eq_of_le (Nat.le_of_lt_succ h)).elim (al_114 hl y) (fun e => e ▸ my_114 hl)
theorem al_116 {l : Launch} (hl : l.stackTraces = false) : ∀ y, y < 116 → ai_My l ai_Mt ai_P ai_Hd ai_ML y := fun y h => (Nat.lt_or_eq_of_le (Nat.le_of_lt_succ h)).elim (al_115 hl y) (fun e => e ▸ my_115 hl)
theorem al_117 {l : Launch} (hl : l.stackTraces = false) : ∀ y, y < 117 → ai_My l ai_Mt ai_P ai_Hd ai_ML y := fun y h => (Nat.lt_or_eq_of_le (Nat.le_of_lt_succ h)).elim (al_116 hl y) (fun e => e ▸ my_116 hl)
theorem al_118 {l : Launch} (hl : l.stackTraces = false) : ∀ y, y < 118 → ai_My l ai_Mt ai_P ai_Hd ai_ML y := fun y h => (Nat.lt_or_eq_of_le (Nat.le_of_lt_succ h)).elim (al_117 hl y) (fun e => e ▸ my_117 hl)
theorem al_119 {l : Launch} (hl : l.stackTraces = false) : ∀ y, y < 119 → ai_My l ai_Mt ai_P ai_Hd ai_ML y := fun y h => (Nat.lt_or_eq_of_le (Nat.le_of_lt_succ h)).elim (al_118 hl y) (fun e => e ▸ my_118 hl)
theorem al_120 {l : Launch} (hl : l.stackTraces = false) : ∀ y, y < 120 → ai_My l ai_Mt ai_P ai_Hd ai_ML y := fun y h => (Nat.lt_or_eq_of_le (Nat.le_of_lt_succ h)).elim (al_119 hl y) (fun e => e ▸ my_119 hl)
theorem al_121 {l : Launch} (hl : l.stackTraces = false) : ∀ y, y < 121 → ai_My l ai_Mt ai_P ai_Hd ai_ML y := fun y h => (Nat.lt_or_eq_of_le (Nat.le_of_lt_succ h)).elim (al_120 hl y) (fun e => e ▸ my_120 hl)
theorem al_122 {l : Launch} (hl : l.stackTraces = false) : ∀ y, y < 122 → ai_My l ai_Mt ai_P ai_Hd ai_ML y := fun y h => (Nat.lt_or_eq_of_le (Nat.le_of_lt_succ h)).elim (al_121 hl y) (fun e => e ▸ my_121 hl)
theorem al_123 {l : Launch} (hl : l.stackTraces = false) : ∀ y, y < 123 → ai_My l ai_Mt ai_P ai_Hd ai_ML y := fun y h => (Nat.lt_or_eq_of_le (Nat.le_of_lt_succ h)).elim (al_122 hl y) (fun e => e ▸ my_122 hl)
theorem al_124 {l : Launch} (hl : l.stackTraces = false) : ∀ y, y < 124 → ai_My l ai_Mt ai_P ai_Hd ai_ML y := fun y h => (Nat.lt_or_eq_of_le (Nat.le_of_lt_succ h)).elim (al_123 hl y) (fun e => e ▸ my_123 hl)
theorem al_125 {l : Launch} (hl : l.stackTraces = false) : ∀ y, y < 125 → ai_My l ai_Mt ai_P ai_Hd ai_ML y := fun y h => (Nat.lt_or_eq_of_le (Nat.le_of_lt_succ h)).elim (al_124 hl y) (fun e => e ▸ my_124 hl)
theorem al_126 {l : Launch} (hl : l.stackTraces = false) : ∀ y, y < 126 → ai_My l ai_Mt ai_P ai_Hd ai_ML y := fun y h => (Nat.lt_or_eq_of_le (Nat.le_of_lt_succ h)).elim (al_125 hl y) (fun e => e ▸ my_125 hl)
theorem al_127 {l : Launch} (hl : l.stackTraces = false) : ∀ y, y < 127 → ai_My l ai_Mt ai_P ai_Hd ai_ML y := fun y h => (Nat.lt_or_eq_of_le (Nat.le_of_lt_succ h)).elim (al_126 hl y) (fun e => e ▸ my_126 hl)
theorem al_128 {l : Launch} (hl : l.stackTraces = false) : ∀ y, y < 128 → ai_My l ai_Mt ai_P ai_Hd ai_ML y := fun y h => (Nat.lt_or_eq_of_le (Nat.le_of_lt_succ h)).elim (al_127 hl y) (fun e => e ▸ my_127 hl)
theorem al_129 {l : Launch} (hl : l.stackTraces = false) : ∀ y, y < 129 → ai_My l ai_Mt ai_P ai_Hd ai_ML y := fun y h => (Nat.lt_or_eq_of_le (Nat.le_of_lt_succ h)).elim (al_128 hl y) (fun e => e ▸ my_128 hl)
theorem al_130 {l : Launch} (hl : l.stackTraces = false) : ∀ y, y < 130 → ai_My l ai_Mt ai_P ai_Hd ai_ML y := fun y h => (Nat.lt_or_eq_of_le (Nat.le_of_lt_succ h)).elim (al_129 hl y) (fun e => e ▸ my_129 hl)
theorem al_131 {l : Launch} (hl : l.stackTraces = false) : ∀ y, y < 131 → ai_My l ai_Mt ai_P ai_Hd ai_ML y := fun y h => (Nat.lt_or_eq_of_le (Nat.le_of_lt_succ h)).elim (al_130 hl y) (fun e => e ▸ my_130 hl)
theorem al_132 {l : Launch} (hl : l.stackTraces = false) : ∀ y, y < 132 → ai_My l ai_Mt ai_P ai_Hd ai_ML y := fun y h => (Nat.lt_or_eq_of_le (Nat.le_of_lt_succ h)).elim (al_131 hl y) (fun e => e ▸ my_131 hl)
theorem al_133 {l : Launch} (hl : l.stackTraces = false) : ∀ y, y < 133 → ai_My l ai_Mt ai_P ai_Hd ai_ML y := fun y h => (Nat.lt_or_eq_of_le (Nat.le_of_lt_succ h)).elim (al_132 hl y) (fun e => e ▸ my_132 hl)
theorem al_134 {l : Launch} (hl : l.stackTraces = false) : ∀ y, y < 134 → ai_My l ai_Mt ai_P ai_Hd ai_ML y := fun y h => (Nat.lt_or_eq_of_le (Nat.le_of_lt_succ h)).elim (al_133 hl y) (fun e => e ▸ my_133 hl)
theorem al_135 {l : Launch} (hl : l.stackTraces = false) : ∀ y, y < 135 → ai_My l ai_Mt ai_P ai_Hd ai_ML y := fun y h => (Nat.lt_or_eq_of_le (Nat.le_of_lt_succ h)).elim (al_134 hl y) (fun e => e ▸ my_134 hl)
theorem al_136 {l : Launch} (hl : l.stackTraces = false) : ∀ y, y < 136 → ai_My l ai_Mt ai_P ai_Hd ai_ML y := fun y h => (Nat.lt_or_eq_of_le (Nat.le_of_lt_succ h)).elim (al_135 hl y) (fun e => e ▸ my_135 hl)
theorem al_137 {l : Launch} (hl : l.stackTraces = false) : ∀ y, y < 137 → ai_My l ai_Mt ai_P ai_Hd ai_ML y := fun y h => (Nat.lt_or_eq_of_le (Nat.le_of_lt_succ h)).elim (al_136 hl y) (fun e => e ▸ my_136 hl)
theorem al_138 {l : Launch} (hl : l.stackTraces = false) : ∀ y, y < 138 → ai_My l ai_Mt ai_P ai_Hd ai_ML y := fun y h => (Nat.lt_or_eq_of_le (Nat.le_of_lt_succ h)).elim (al_137 hl y) (fun e => e ▸ my_137 hl)
theorem al_139 {l : Launch} (hl : l.stackTraces = false) : ∀ y, y < 139 → ai_My l ai_Mt ai_P ai_Hd ai_ML y := fun y h => (Nat.lt_or_eq_of_le (Nat.le_of_lt_succ h)).elim (al_138 hl y) (fun e => e ▸ my_138 hl)
theorem al_140 {l : Launch} (hl : l.stackTraces = false) : ∀ y, y < 140 → ai_My l ai_Mt ai_P ai_Hd ai_ML y := fun y h => (Nat.lt_or_eq_of_le (Nat.le_of_lt_succ h)).elim (al_139 hl y) (fun e => e ▸ my_139 hl)
theorem al_141 {l : Launch} (hl : l.stackTraces = false) : ∀ y, y < 141 → ai_My l ai_Mt ai_P ai_Hd ai_ML y := fun y h => (Nat.lt_or_eq_of_le (Nat.le_of_lt_succ h)).elim (al_140 hl y) (fun e => e ▸ my_140 hl)
theorem al_142 {l : Launch} (hl : l.stackTraces = false) : ∀ y, y < 142 → ai_My l ai_Mt ai_P ai_Hd ai_ML y := fun y h => (Nat.lt_or_eq_of_le (Nat.le_of_lt_succ h)).elim (al_141 hl y) (fun e => e ▸ my_141 hl)
theorem al_143 {l : Launch} (hl : l.stackTraces = false) : ∀ y, y < 143 → ai_My l ai_Mt ai_P ai_Hd ai_ML y := fun y h => (Nat.lt_or_eq_of_le (Nat.le_of_lt_succ h)).elim (al_142 hl y) (fun e => e ▸ my_142 hl)
theorem al_144 {l : Launch} (hl : l.stackTraces = false) : ∀ y, y < 144 → ai_My l ai_Mt ai_P ai_Hd ai_ML y := fun y h => (Nat.lt_or_eq_of_le (Nat.le_of_lt_succ h)).elim (al_143 hl y) (fun e => e ▸ my_143 hl)
theorem al_145 {l : Launch} (hl : l.stackTraces = false) : ∀ y, y < 145 → ai_My l ai_Mt ai_P ai_Hd ai_ML y := fun y h => (Nat.lt_or_eq_of_le (Nat.le_of_lt_succ h)).elim (al_144 hl y) (fun e => e ▸ my_144 hl)
theorem al_146 {l : Launch} (hl : l.stackTraces = false) : ∀ y, y < 146 → ai_My l ai_Mt ai_P ai_Hd ai_ML y := fun y h => (Nat.lt_or_eq_of_le (Nat.le_of_lt_succ h)).elim (al_145 hl y) (fun e => e ▸ my_145 hl)
theorem al_147 {l : Launch} (hl : l.stackTraces = false) : ∀ y, y < 147 → ai_My l ai_Mt ai_P ai_Hd ai_ML y := fun y h => (Nat.lt_or_eq_of_le (Nat.le_of_lt_succ h)).elim (al_146 hl y) (fun e => e ▸ my_146 hl)
theorem al_148 {l : Launch} (hl : l.stackTraces = false) : ∀ y, y < 148 → ai_My l ai_Mt ai_P ai_Hd ai_ML y := fun y h => (Nat.lt_or_eq_of_le (Nat.le_of_lt_succ h)).elim (al_147 hl y) (fun e => e ▸ my_147 hl)
theorem al_149 {l : Launch} (hl : l.stackTraces = false) : ∀ y, y < 149 → ai_My l ai_Mt ai_P ai_Hd ai_ML y := fun y h => (Nat.lt_or_eq_of_le (Nat.le_of_lt_succ h)).elim (al_148 hl y) (fun e => e ▸ my_148 hl)
theorem al_150 {l : Launch} (hl : l.stackTraces = false) : ∀ y, y < 150 → ai_My l ai_Mt ai_P ai_Hd ai_ML y := fun y h => (Nat.lt_or_eq_of_le (Nat.le_of_lt_succ h)).elim (al_149 hl y) (fun e => e ▸ my_149 hl)
theorem al_151 {l : Launch} (hl : l.stackTraces = false) : ∀ y, y < 151 → ai_My l ai_Mt ai_P ai_Hd ai_ML y := fun y h => (Nat.lt_or_eq_of_le (Nat.le_of_lt_succ h)).elim (al_150 hl y) (fun e => e ▸ my_150 hl)
theorem al_152 {l : Launch} (hl : l.stackTraces = false) : ∀ y, y < 152 → ai_My l ai_Mt ai_P ai_Hd ai_ML y := fun y h => (Nat.lt_or_eq_of_le (Nat.le_of_lt_succ h)).elim (al_151 hl y) (fun e => e ▸ my_151 hl)
theorem al_153 {l : Launch} (hl : l.stackTraces = false) : ∀ y, y < 153 → ai_My l ai_Mt ai_P ai_Hd ai_ML y := fun y h => (Nat.lt_or_eq_of_le (Nat.le_of_lt_succ h)).elim (al_152 hl y) (fun e => e ▸ my_152 hl)
theorem al_154 {l : Launch} (hl : l.stackTraces = false) : ∀ y, y < 154 → ai_My l ai_Mt ai_P ai_Hd ai_ML y := fun y h => (Nat.lt_or_eq_of_le (Nat.le_of_lt_succ h)).elim (al_153 hl y) (fun e => e ▸ my_153 hl)
theorem al_155 {l : Launch} (hl : l.stackTraces = false) : ∀ y, y < 155 → ai_My l ai_Mt ai_P ai_Hd ai_ML y := fun y h => (Nat.lt_or_eq_of_le (Nat.le_of_lt_succ h)).elim (al_154 hl y) (fun e => e ▸ my_154 hl)
theorem al_156 {l : Launch} (hl : l.stackTraces = false) : ∀ y, y < 156 → ai_My l ai_Mt ai_P ai_Hd ai_ML y := fun y h => (Nat.lt_or_eq_of_le (Nat.le_of_lt_succ h)).elim (al_155 hl y) (fun e => e ▸ my_155 hl)
theorem al_157 {l : Launch} (hl : l.stackTraces = false) : ∀ y, y < 157 → ai_My l ai_Mt ai_P ai_Hd ai_ML y := fun y h => (Nat.lt_or_eq_of_le (Nat.le_of_lt_succ h)).elim (al_156 hl y) (fun e => e ▸ my_156 hl)
theorem al_158 {l : Launch} (hl : l.stackTraces = false) : ∀ y, y < 158 → ai_My l ai_Mt ai_P ai_Hd ai_ML y := fun y h => (Nat.lt_or_eq_of_le (Nat.le_of_lt_succ h)).elim (al_157 hl y) (fun e => e ▸ my_157 hl)
theorem al_159 {l : Launch} (hl : l.stackTraces = false) : ∀ y, y < 159 → ai_My l ai_Mt ai_P ai_Hd ai_ML y := fun y h => (Nat.lt_or_eq_of_le (Nat.le_of_lt_succ h)).elim (al_158 hl y) (fun e => e ▸ my_158 hl)
theorem al_160 {l : Launch} (hl : l.stackTraces = false) : ∀ y, y < 160 → ai_My l ai_Mt ai_P ai_Hd ai_ML y := fun y h => (Nat.lt_or_eq_of_le (Nat.le_of_lt_succ h)).elim (al_159 hl y) (fun e => e ▸ my_159 hl)
theorem al_161 {l : Launch} (hl : l.stackTraces = false) : ∀ y, y < 161 → ai_My l ai_Mt ai_P ai_Hd ai_ML y := fun y h => (Nat.lt_or_eq_of_le (Nat.le_of_lt_succ h)).elim (al_160 hl y) (fun e => e ▸ my_160 hl)
theorem al_162 {l : Launch} (hl : l.stackTraces = false) : ∀ y, y < 162 → ai_My l ai_Mt ai_P ai_Hd ai_ML y := fun y h => (Nat.lt_or_eq_of_le (Nat.le_of_lt_succ h)).elim (al_161 hl y) (fun e => e ▸ my_161 hl)
theorem al_163 {l : Launch} (hl : l.stackTraces = false) : ∀ y, y < 163 → ai_My l ai_Mt ai_P ai_Hd ai_ML y := fun y h => (Nat.lt_or_eq_of_le (Nat.le_of_lt_succ h)).elim (al_162 hl y) (fun e => e ▸ my_162 hl)
theorem al_164 {l : Launch} (hl : l.stackTraces = false) : ∀ y, y < 164 → ai_My l ai_Mt ai_P ai_Hd ai_ML y := fun y h => (Nat.lt_or_eq_of_le (Nat.le_of_lt_succ h)).elim (al_163 hl y) (fun e => e ▸ my_163 hl)
theorem al_165 {l : Launch} (hl : l.stackTraces = false) : ∀ y, y < 165 → ai_My l ai_Mt ai_P ai_Hd ai_ML y := fun y h => (Nat.lt_or_eq_of_le (Nat.le_of_lt_succ h)).elim (al_164 hl y) (fun e => e ▸ my_164 hl)
theorem al_166 {l : Launch} (hl : l.stackTraces = false) : ∀ y, y < 166 → ai_My l ai_Mt ai_P ai_Hd ai_ML y := fun y h => (Nat.lt_or_eq_of_le (Nat.le_of_lt_succ h)).elim (al_165 hl y) (fun e => e ▸ my_165 hl)
theorem al_167 {l : Launch} (hl : l.stackTraces = false) : ∀ y, y < 167 → ai_My l ai_Mt ai_P ai_Hd ai_ML y := fun y h => (Nat.lt_or_eq_of_le (Nat.le_of_lt_succ h)).elim (al_166 hl y) (fun e => e ▸ my_166 hl)
theorem al_168 {l : Launch} (hl : l.stackTraces = false) : ∀ y, y < 168 → ai_My l ai_Mt ai_P ai_Hd ai_ML y := fun y h => (Nat.lt_or_eq_of_le (Nat.le_of_lt_succ h)).elim (al_167 hl y) (fun e => e ▸ my_167 hl)
theorem al_169 {l : Launch} (hl : l.stackTraces = false) : ∀ y, y < 169 → ai_My l ai_Mt ai_P ai_Hd ai_ML y := fun y h => (Nat.lt_or_eq_of_le (Nat.le_of_lt_succ h)).elim (al_168 hl y) (fun e => e ▸ my_168 hl)
theorem al_170 {l : Launch} (hl : l.stackTraces = false) : ∀ y, y < 170 → ai_My l ai_Mt ai_P ai_Hd ai_ML y := fun y h => (Nat.lt_or_eq_of_le (Nat.le_of_lt_succ h)).elim (al_169 hl y) (fun e => e ▸ my_169 hl)
theorem al_171 {l : Launch} (hl : l.stackTraces = false) : ∀ y, y < 171 → ai_My l ai_Mt ai_P ai_Hd ai_ML y := fun y h => (Nat.lt_or_eq_of_le (Nat.le_of_lt_succ h)).elim (al_170 hl y) (fun e => e ▸ my_170 hl)
theorem al_172 {l : Launch} (hl : l.stackTraces = false) : ∀ y, y < 172 → ai_My l ai_Mt ai_P ai_Hd ai_ML y := fun y h => (Nat.lt_or_eq_of_le (Nat.le_of_lt_succ h)).elim (al_171 hl y) (fun e => e ▸ my_171 hl)
theorem al_173 {l : Launch} (hl : l.stackTraces = false) : ∀ y, y < 173 → ai_My l ai_Mt ai_P ai_Hd ai_ML y := fun y h => (Nat.lt_or_eq_of_le (Nat.le_of_lt_succ h)).elim (al_172 hl y) (fun e => e ▸ my_172 hl)
theorem al_174 {l : Launch} (hl : l.stackTraces = false) : ∀ y, y < 174 → ai_My l ai_Mt ai_P ai_Hd ai_ML y := fun y h => (Nat.lt_or_eq_of_le (Nat.le_of_lt_succ h)).elim (al_173 hl y) (fun e => e ▸ my_173 hl)
theorem al_175 {l : Launch} (hl : l.stackTraces = false) : ∀ y, y < 175 → ai_My l ai_Mt ai_P ai_Hd ai_ML y := fun y h => (Nat.lt_or_eq_of_le (Nat.le_of_lt_succ h)).elim (al_174 hl y) (fun e => e ▸ my_174 hl)
theorem al_176 {l : Launch} (hl : l.stackTraces = false) : ∀ y, y < 176 → ai_My l ai_Mt ai_P ai_Hd ai_ML y := fun y h => (Nat.lt_or_eq_of_le (Nat.le_of_lt_succ h)).elim (al_175 hl y) (fun e => e ▸ my_175 hl)
theorem al_177 {l : Launch} (hl : l.stackTraces = false) : ∀ y, y < 177 → ai_My l ai_Mt ai_P ai_Hd ai_ML y := fun y h => (Nat.lt_or_eq_of_le (Nat.le_of_lt_succ h)).elim (al_176 hl y) (fun e => e ▸ my_176 hl)
theorem al_178 {l : Launch} (hl : l.stackTraces = false) : ∀ y, y < 178 → ai_My l ai_Mt ai_P ai_Hd ai_ML y := fun y h => (Nat.lt_or_eq_of_le (Nat.le_of_lt_succ h)).elim (al_177 hl y) (fun e => e ▸ my_177 hl)
theorem al_179 {l : Launch} (hl : l.stackTraces = false) : ∀ y, y < 179 → ai_My l ai_Mt ai_P ai_Hd ai_ML y := fun y h => (Nat.lt_or_eq_of_le (Nat.le_of_lt_succ h)).elim (al_178 hl y) (fun e => e ▸ my_178 hl)
theorem al_180 {l : Launch} (hl : l.stackTraces = false) : ∀ y, y < 180 → ai_My l ai_Mt ai_P ai_Hd ai_ML y := fun y h => (Nat.lt_or_eq_of_le (Nat.le_of_lt_succ h)).elim (al_179 hl y) (fun e => e ▸ my_179 hl)
theorem al_181 {l : Launch} (hl : l.stackTraces = false) : ∀ y, y < 181 → ai_My l ai_Mt ai_P ai_Hd ai_ML y := fun y h => (Nat.lt_or_eq_of_le (Nat.le_of_lt_succ h)).elim (al_180 hl y) (fun e => e ▸ my_180 hl)
theorem al_182 {l : Launch} (hl : l.stackTraces = false) : ∀ y, y < 182 → ai_My l ai_Mt ai_P ai_Hd ai_ML y := fun y h => (Nat.lt_or_eq_of_le (Nat.le_of_lt_succ h)).elim (al_181 hl y) (fun e => e ▸ my_181 hl)
theorem al_183 {l : Launch} (hl : l.stackTraces = false) : ∀ y, y < 183 → ai_My l ai_Mt ai_P ai_Hd ai_ML y := fun y h => (Nat.lt_or_eq_of_le (Nat.le_of_lt_succ h)).elim (al_182 hl y) (fun e => e ▸ my_182 hl)
theorem al_184 {l : Launch} (hl : l.stackTraces = false) : ∀ y, y < 184 → ai_My l ai_Mt ai_P ai_Hd ai_ML y := fun y h => (Nat.lt_or_eq_of_le (Nat.le_of_lt_succ h)).elim (al_183 hl y) (fun e => e ▸ my_183 hl)
theorem al_185 {l : Launch} (hl : l.stackTraces = false) : ∀ y, y < 185 → ai_My l ai_Mt ai_P ai_Hd ai_ML y := fun y h => (Nat.lt_or_eq_of_le (Nat.le_of_lt_succ h)).elim (al_184 hl y) (fun e => e ▸ my_184 hl)
theorem al_186 {l : Launch} (hl : l.stackTraces = false) : ∀ y, y < 186 → ai_My l ai_Mt ai_P ai_Hd ai_ML y := fun y h => (Nat.lt_or_eq_of_le (Nat.le_of_lt_succ h)).elim (al_185 hl y) (fun e => e ▸ my_185 hl)
theorem al_187 {l : Launch} (hl : l.stackTraces = false) : ∀ y, y < 187 → ai_My l ai_Mt ai_P ai_Hd ai_ML y := fun y h => (Nat.lt_or_eq_of_le (Nat.le_of_lt_succ h)).elim (al_186 hl y) (fun e => e ▸ my_186 hl)
theorem al_188 {l : Launch} (hl : l.stackTraces = false) : ∀ y, y < 188 → ai_My l ai_Mt ai_P ai_Hd ai_ML y := fun y h => (Nat.lt_or_eq_of_le (Nat.le_of_lt_succ h)).elim (al_187 hl y) (fun e => e ▸ my_187 hl)
theorem al_189 {l : Launch} (hl : l.stackTraces = false) : ∀ y, y < 189 → ai_My l ai_Mt ai_P ai_Hd ai_ML y := fun y h => (Nat.lt_or_eq_of_le (Nat.le_of_lt_succ h)).elim (al_188 hl y) (fun e => e ▸ my_188 hl)
theorem al_190 {l : Launch} (hl : l.stackTraces = false) : ∀ y, y < 190 → ai_My l ai_Mt ai_P ai_Hd ai_ML y := fun y h => (Nat.lt_or_eq_of_le (Nat.le_of_lt_succ h)).elim (al_189 hl y) (fun e => e ▸ my_189 hl)
theorem al_191 {l : Launch} (hl : l.stackTraces = false) : ∀ y, y < 191 → ai_My l ai_Mt ai_P ai_Hd ai_ML y := fun y h => (Nat.lt_or_eq_of_le (Nat.le_of_lt_succ h)).elim (al_190 hl y) (fun e => e ▸ my_190 hl)
theorem al_192 {l : Launch} (hl : l.stackTraces = false) : ∀ y, y < 192 → ai_My l ai_Mt ai_P ai_Hd ai_ML y := fun y h => (Nat.lt_or_eq_of_le (Nat.le_of_lt_succ h)).elim (al_191 hl y) (fun e => e ▸ my_191 hl)
theorem al_193 {l : Launch} (hl : l.stackTraces = false) : ∀ y, y < 193 → ai_My l ai_Mt ai_P ai_Hd ai_ML y := fun y h => (Nat.lt_or_eq_of_le (Nat.le_of_lt_succ h)).elim (al_192 hl y) (fun e => e ▸ my_192 hl)
theorem al_194 {l : Launch} (hl : l.stackTraces = false) : ∀ y, y < 194 → ai_My l ai_Mt ai_P ai_Hd ai_ML y := fun y h => (Nat.lt_or_eq_of_le (Nat.le_of_lt_succ h)).elim (al_193 hl y) (fun e => e ▸ my_193 hl)
theorem al_195 {l : Launch} (hl : l.stackTraces = false) : ∀ y, y < 195 → ai_My l ai_Mt ai_P ai_Hd ai_ML y := fun y h => (Nat.lt_or_eq_of_le (Nat.le_of_lt_succ h)).elim (al_194 hl y) (fun e => e ▸ my_194 hl)
theorem al_196 {l : Launch} (hl : l.stackTraces = false) : ∀ y, y < 196 → ai_My l ai_Mt ai_P ai_Hd ai_ML y := fun y h => (Nat.lt_or_eq_of_le (Nat.le_of_lt_succ h)).elim (al_195 hl y) (fun e => e ▸ my_195 hl)
theorem al_197 {l : Launch} (hl : l.stackTraces = false) : ∀ y, y < 197 → ai_My l ai_Mt ai_P ai_Hd ai_ML y := fun y h => (Nat.lt_or_eq_of_le (Nat.le_of_lt_succ h)).elim (al_196 hl y) (fun e => e ▸ my_196 hl)
theorem al_198 {l : Launch} (hl : l.stackTraces = false) : ∀ y, y < 198 → ai_My l ai_Mt ai_P ai_Hd ai_ML y := fun y h => (Nat.lt_or_eq_of_le (Nat.le_of_lt_succ h)).elim (al_197 hl y) (fun e => e ▸ my_197 hl)
theorem al_199 {l : Launch} (hl : l.stackTraces = false) : ∀ y, y < 199 → ai_My l ai_Mt ai_P ai_Hd ai_ML y := fun y h => (Nat.lt_or_eq_of_le (Nat.le_of_lt_succ h)).elim (al_198 hl y) (fun e => e ▸ my_198 hl)
theorem al_200 {l : Launch} (hl : l.stackTraces = false) : ∀ y, y < 200 → ai_My l ai_Mt ai_P ai_Hd ai_ML y := fun y h => (Nat.lt_or_eq_of_le (Nat.le_of_lt_succ h)).elim (al_199 hl y) (fun e => e ▸ my_199 hl)
theorem al_201 {l : Launch} (hl : l.stackTraces = false) : ∀ y, y < 201 → ai_My l ai_Mt ai_P ai_Hd ai_ML y := fun y h => (Nat.lt_or_eq_of_le (Nat.le_of_lt_succ h)).elim (al_200 hl y) (fun e => e ▸ my_200 hl)
theorem al_202 {l : Launch} (hl : l.stackTraces = false) : ∀ y, y < 202 → ai_My l ai_Mt ai_P ai_Hd ai_ML y := fun y h => (Nat.lt_or_eq_of_le (Nat.le_of_lt_succ h)).elim (al_201 hl y) (fun e => e ▸ my_201 hl)
theorem al_203 {l : Launch} (hl : l.stackTraces = false) : ∀ y, y < 203 → ai_My l ai_Mt ai_P ai_Hd ai_ML y := fun y h => (Nat.lt_or_eq_of_le (Nat.le_of_lt_succ h)).elim (al_202 hl y) (fun e => e ▸ my_202 hl)
theorem al_204 {l : Launch} (hl : l.stackTraces = false) : ∀ y, y < 204 → ai_My l ai_Mt ai_P ai_Hd ai_ML y := fun y h => (Nat.lt_or_eq_of_le (Nat.le_of_lt_succ h)).elim (al_203 hl y) (fun e => e ▸ my_203 hl)
theorem al_205 {l : Launch} (hl : l.stackTraces = false) : ∀ y, y < 205 → ai_My l ai_Mt ai_P ai_Hd ai_ML y := fun y h => (Nat.lt_or_eq_of_le (Nat.le_of_lt_succ h)).elim (al_204 hl y) (fun e => e ▸ my_204 hl)
theorem al_206 {l : Launch} (hl : l.stackTraces = false) : ∀ y, y < 206 → ai_My l ai_Mt ai_P ai_Hd ai_ML y := fun y h => (Nat.lt_or_eq_of_le (Nat.le_of_lt_succ h)).elim (al_205 hl y) (fun e => e ▸ my_205 hl)
theorem al_207 {l : Launch} (hl : l.stackTraces = false) : ∀ y, y < 207 → ai_My l ai_Mt ai_P ai_Hd ai_ML y := fun y h => (Nat.lt_or_eq_of_le (Nat.le_of_lt_succ h)).elim (al_206 hl y) (fun e => e ▸ my_206 hl)
theorem al_208 {l : Launch} (hl : l.stackTraces = false) : ∀ y, y < 208 → ai_My l ai_Mt ai_P ai_Hd ai_ML y := fun y h => (Nat.lt_or_eq_of_le (Nat.le_of_lt_succ h)).elim (al_207 hl y) (fun e => e ▸ my_207 hl)
theorem al_209 {l : Launch} (hl : l.stackTraces = false) : ∀ y, y < 209 → ai_My l ai_Mt ai_P ai_Hd ai_ML y := fun y h => (Nat.lt_or_eq_of_le (Nat.le_of_lt_succ h)).elim (al_208 hl y) (fun e => e ▸ my_208 hl)
theorem al_210 {l : Launch} (hl : l.stackTraces = false) : ∀ y, y < 210 → ai_My l ai_Mt ai_P ai_Hd ai_ML y := fun y h => (Nat.lt_or_eq_of_le (Nat.le_of_lt_succ h)).elim (al_209 hl y) (fun e => e ▸ my_209 hl)
theorem al_211 {l : Launch} (hl : l.stackTraces = false) : ∀ y, y < 211 → ai_My l ai_Mt ai_P ai_Hd ai_ML y := fun y h => (Nat.lt_or_eq_of_le (Nat.le_of_lt_succ h)).elim (al_210 hl y) (fun e => e ▸ my_210 hl)
theorem al_212 {l : Launch} (hl : l.stackTraces = false) : ∀ y, y < 212 → ai_My l ai_Mt ai_P ai_Hd ai_ML y := fun y h => (Nat.lt_or_eq_of_le (Nat.le_of_lt_succ h)).elim (al_211 hl y) (fun e => e ▸ my_211 hl)
theorem al_213 {l : Launch} (hl : l.stackTraces = false) : ∀ y, y < 213 → ai_My l ai_Mt ai_P ai_Hd ai_ML y := fun y h => (Nat.lt_or_eq_of_le (Nat.le_of_lt_succ h)).elim (al_212 hl y) (fun e => e ▸ my_212 hl)
theorem al_214 {l : Launch} (hl : l.stackTraces = false) : ∀ y, y < 214 → ai_My l ai_Mt ai_P ai_Hd ai_ML y := fun y h => (Nat.lt_or_eq_of_le (Nat.le_of_lt_succ h)).elim (al_213 hl y) (fun e => e ▸ my_213 hl)
theorem al_215 {l : Launch} (hl : l.stackTraces = false) : ∀ y, y < 215 → ai_My l ai_Mt ai_P ai_Hd ai_ML y := fun y h => (Nat.lt_or_eq_of_le (Nat.le_of_lt_succ h)).elim (al_214 hl y) (fun e => e ▸ my_214 hl)
theorem al_216 {l : Launch} (hl : l.stackTraces = false) : ∀ y, y < 216 → ai_My l ai_Mt ai_P ai_Hd ai_ML y := fun y h => (Nat.lt_or_eq_of_le (Nat.le_of_lt_succ h)).elim (al_215 hl y) (fun e => e ▸ my_215 hl)
theorem al_217 {l : Launch} (hl : l.stackTraces = false) : ∀ y, y < 217 → ai_My l ai_Mt ai_P ai_Hd ai_ML y := fun y h => (Nat.lt_or_eq_of_le (Nat.le_of_lt_succ h)).elim (al_216 hl y) (fun e => e ▸ my_216 hl)
theorem al_218 {l : Launch} (hl : l.stackTraces = false) : ∀ y, y < 218 → ai_My l ai_Mt ai_P ai_Hd ai_ML y := fun y h => (Nat.lt_or_eq_of_le (Nat.le_of_lt_succ h)).elim (al_217 hl y) (fun e => e ▸ my_217 hl)
theorem al_219 {l : Launch} (hl : l.stackTraces = false) : ∀ y, y < 219 → ai_My l ai_Mt ai_P ai_Hd ai_ML y := fun y h => (Nat.lt_or_eq_of_le (Nat.le_of_lt_succ h)).elim (al_218 hl y) (fun e => e ▸ my_218 hl)
theorem al_220 {l : Launch} (hl : l.stackTraces = false) : ∀ y, y < 220 → ai_My l ai_Mt ai_P ai_Hd ai_ML y := fun y h => (Nat.lt_or_eq_of_le (Nat.le_of_lt_succ h)).elim (al_219 hl y) (fun e => e ▸ my_219 hl)
theorem al_221 {l : Launch} (hl : l.stackTraces = false) : ∀ y, y < 221 → ai_My l ai_Mt ai_P ai_Hd ai_ML y := fun y h => (Nat.lt_or_eq_of_le (Nat.le_of_lt_succ h)).elim (al_220 hl y) (fun e => e ▸ my_220 hl)
theorem al_222 {l : Launch} (hl : l.stackTraces = false) : ∀ y, y < 222 → ai_My l ai_Mt ai_P ai_Hd ai_ML y := fun y h => (Nat.lt_or_eq_of_le (Nat.le_of_lt_succ h)).elim (al_221 hl y) (fun e => e ▸ my_221 hl)
theorem al_223 {l : Launch} (hl : l.stackTraces = false) : ∀ y, y < 223 → ai_My l ai_Mt ai_P ai_Hd ai_ML y := fun y h => (Nat.lt_or_eq_of_le (Nat.le_of_lt_succ h)).elim (al_222 hl y) (fun e => e ▸ my_222 hl)
theorem al_224 {l : Launch} (hl : l.stackTraces = false) : ∀ y, y < 224 → ai_My l ai_Mt ai_P ai_Hd ai_ML y := fun y h => (Nat.lt_or_eq_of_le (Nat.le_of_lt_succ h)).elim (al_223 hl y) (fun e => e ▸ my_223 hl)
theorem al_225 {l : Launch} (hl : l.stackTraces = false) : ∀ y, y < 225 → ai_My l ai_Mt ai_P ai_Hd ai_ML y := fun y h => (Nat.lt_or_eq_of_le (Nat.le_of_lt_succ h)).elim (al_224 hl y) (fun e => e ▸ my_224 hl)
theorem al_226 {l : Launch} (hl : l.stackTraces = false) : ∀ y, y < 226 → ai_My l ai_Mt ai_P ai_Hd ai_ML y := fun y h => (Nat.lt_or_eq_of_le (Nat.le_of_lt_succ h)).elim (al_225 hl y) (fun e => e ▸ my_225 hl)
theorem al_227 {l : Launch} (hl : l.stackTraces = false) : ∀ y, y < 227 → ai_My l ai_Mt ai_P ai_Hd ai_ML y := fun y h => (Nat.lt_or_eq_of_le (Nat.le_of_lt_succ h)).elim (al_226 hl y) (fun e => e ▸ my_226 hl)
theorem al_228 {l : Launch} (hl : l.stackTraces = false) : ∀ y, y < 228 → ai_My l ai_Mt ai_P ai_Hd ai_ML y := fun y h => (Nat.lt_or_eq_of_le (Nat.le_of_lt_succ h)).elim (al_227 hl y) (fun e => e ▸ my_227 hl)
theorem al_229 {l : Launch} (hl : l.stackTraces = false) : ∀ y, y < 229 → ai_My l ai_Mt ai_P ai_Hd ai_ML y := fun y h => (Nat.lt_or_eq_of_le (Nat.le_of_lt_succ h)).elim (al_228 hl y) (fun e => e ▸ my_228 hl)
theorem al_230 {l : Launch} (hl : l.stackTraces = false) : ∀ y, y < 230 → ai_My l ai_Mt ai_P ai_Hd ai_ML y := fun y h => (Nat.lt_or_eq_of_le (Nat.le_of_lt_succ h)).elim (al_229 hl y) (fun e => e ▸ my_229 hl)
theorem al_231 {l : Launch} (hl : l.stackTraces = false) : ∀ y, y < 231 → ai_My l ai_Mt ai_P ai_Hd ai_ML y := fun y h => (Nat.lt_or_eq_of_le (Nat.le_of_lt_succ h)).elim (al_230 hl y) (fun e => e ▸ my_230 hl)
theorem al_232 {l : Launch} (hl : l.stackTraces = false) : ∀ y, y < 232 → ai_My l ai_Mt ai_P ai_Hd ai_ML y := fun y h => (Nat.lt_or_eq_of_le (Nat.le_of_lt_succ h)).elim (al_231 hl y) (fun e => e ▸ my_231 hl)
theorem al_233 {l : Launch} (hl : l.stackTraces = false) : ∀ y, y < 233 → ai_My l ai_Mt ai_P ai_Hd ai_ML y := fun y h => (Nat.lt_or_eq_of_le (Nat.le_of_lt_succ h)).elim (al_232 hl y) (fun e => e ▸ my_232 hl)
theorem al_234 {l : Launch} (hl : l.stackTraces = false) : ∀ y, y < 234 → ai_My l ai_Mt ai_P ai_Hd ai_ML y := fun y h => (Nat.lt_or_eq_of_le (Nat.le_of_lt_succ h)).elim (al_233 hl y) (fun e => e ▸ my_233 hl)
theorem al_235 {l : Launch} (hl : l.stackTraces = false) : ∀ y, y < 235 → ai_My l ai_Mt ai_P ai_Hd ai_ML y := fun y h => (Nat.lt_or_eq_of_le (Nat.le_of_lt_succ h)).elim (al_234 hl y) (fun e => e ▸ my_234 hl)
theorem al_236 {l : Launch} (hl : l.stackTraces = false) : ∀ y, y < 236 → ai_My l ai_Mt ai_P ai_Hd ai_ML y := fun y h => (Nat.lt_or_eq_of_le (Nat.le_of_lt_succ h)).elim (al_235 hl y) (fun e => e ▸ my_235 hl)
theorem al_237 {l : Launch} (hl : l.stackTraces = false) : ∀ y, y < 237 → ai_My l ai_Mt ai_P ai_Hd ai_ML y := fun y h => (Nat.lt_or_eq_of_le (Nat.le_of_lt_succ h)).elim (al_236 hl y) (fun e => e ▸ my_236 hl)
theorem al_238 {l : Launch} (hl : l.stackTraces = false) : ∀ y, y < 238 → ai_My l ai_Mt ai_P ai_Hd ai_ML y := fun y h => (Nat.lt_or_eq_of_le (Nat.le_of_lt_succ h)).elim (al_237 hl y) (fun e => e ▸ my_237 hl)
theorem al_239 {l : Launch} (hl : l.stackTraces = false) : ∀ y, y < 239 → ai_My l ai_Mt ai_P ai_Hd ai_ML y := fun y h => (Nat.lt_or_eq_of_le (Nat.le_of_lt_succ h)).elim (al_238 hl y) (fun e => e ▸ my_238 hl)
theorem al_240 {l : Launch} (hl : l.stackTraces = false) : ∀ y, y < 240 → ai_My l ai_Mt ai_P ai_Hd ai_ML y := fun y h => (Nat.lt_or_eq_of_le (Nat.le_of_lt_succ h)).elim (al_239 hl y) (fun e => e ▸ my_239 hl)
theorem al_241 {l : Launch} (hl : l.stackTraces = false) : ∀ y, y < 241 → ai_My l ai_Mt ai_P ai_Hd ai_ML y := fun y h => (Nat.lt_or_eq_of_le (Nat.le_of_lt_succ h)).elim (al_240 hl y) (fun e => e ▸ my_240 hl)
theorem al_242 {l : Launch} (hl : l.stackTraces = false) : ∀ y, y < 242 → ai_My l ai_Mt ai_P ai_Hd ai_ML y := fun y h => (Nat.lt_or_eq_of_le (Nat.le_of_lt_succ h)).elim (al_241 hl y) (fun e => e ▸ my_241 hl)
theorem al_243 {l : Launch} (hl : l.stackTraces = false) : ∀ y, y < 243 → ai_My l ai_Mt ai_P ai_Hd ai_ML y := fun y h => (Nat.lt_or_eq_of_le (Nat.le_of_lt_succ h)).elim (al_242 hl y) (fun e => e ▸ my_242 hl)
theorem al_244 {l : Launch} (hl : l.stackTraces = false) : ∀ y, y < 244 → ai_My l ai_Mt ai_P ai_Hd ai_ML y := fun y h => (Nat.lt_or_eq_of_le (Nat.le_of_lt_succ h)).elim (al_243 hl y) (fun e => e ▸ my_243 hl)
theorem al_245 {l : Launch} (hl : l.stackTraces = false) : ∀ y, y < 245 → ai_My l ai_Mt ai_P ai_Hd ai_ML y := fun y h => (Nat.lt_or_eq_of_le (Nat.le_of_lt_succ h)).elim (al_244 hl y) (fun e => e ▸ my_244 hl)
theorem al_246 {l : Launch} (hl : l.stackTraces = false) : ∀ y, y < 246 → ai_My l ai_Mt ai_P ai_Hd ai_ML y := fun y h => (Nat.lt_or_eq_of_le (Nat.le_of_lt_succ h)).elim (al_245 hl y) (fun e => e ▸ my_245 hl)
theorem al_247 {l : Launch} (hl : l.stackTraces = false) : ∀ y, y < 247 → ai_My l ai_Mt ai_P ai_Hd ai_ML y := fun y h => (Nat.lt_or_eq_of_le (Nat.le_of_lt_succ h)).elim (al_246 hl y) (fun e => e ▸ my_246 hl)
theorem al_248 {l : Launch} (hl : l.stackTraces = false) : ∀ y, y < 248 → ai_My l ai_Mt ai_P ai_Hd ai_ML y := fun y h => (Nat.lt_or_eq_of_le (Nat.le_of_lt_succ h)).elim (al_247 hl y) (fun e => e ▸ my_247 hl)
theorem al_249 {l : Launch} (hl : l.stackTraces = false) : ∀ y, y < 249 → ai_My l ai_Mt ai_P ai_Hd ai_ML y := fun y h => (Nat.lt_or_eq_of_le (Nat.le_of_lt_succ h)).elim (al_248 hl y) (fun e => e ▸ my_248 hl)
theorem al_250 {l : Launch} (hl : l.stackTraces = false) : ∀ y, y < 250 → ai_My l ai_Mt ai_P ai_Hd ai_ML y := fun y h => (Nat.lt_or_eq_of_le (Nat.le_of_lt_succ h)).elim (al_249 hl y) (fun e => e ▸ my_249 hl)
theorem al_251 {l : Launch} (hl : l.stackTraces = false) : ∀ y, y < 251 → ai_My l ai_Mt ai_P ai_Hd ai_ML y := fun y h => (Nat.lt_or_eq_of_le (Nat.le_of_lt_succ h)).elim (al_250 hl y) (fun e => e ▸ my_250 hl)
theorem al_252 {l : Launch} (hl : l.stackTraces = false) : ∀ y, y < 252 → ai_My l ai_Mt ai_P ai_Hd ai_ML y := fun y h => (Nat.lt_or_eq_of_le (Nat.le_of_lt_succ h)).elim (al_251 hl y) (fun e => e ▸ my_251 hl)
theorem al_253 {l : Launch} (hl : l.stackTraces = false) : ∀ y, y < 253 → ai_My l ai_Mt ai_P ai_Hd ai_ML y := fun y h => (Nat.lt_or_eq_of_le (Nat.le_of_lt_succ h)).elim (al_252 hl y) (fun e => e ▸ my_252 hl)
theorem al_254 {l : Launch} (hl : l.stackTraces = false) : ∀ y, y < 254 → ai_My l ai_Mt ai_P ai_Hd ai_ML y := fun y h => (Nat.lt_or_eq_of_le (Nat.le_of_lt_succ h)).elim (al_253 hl y) (fun e => e ▸ my_253 hl)
theorem al_255 {l : Launch} (hl : l.stackTraces = false) : ∀ y, y < 255 → ai_My l ai_Mt ai_P ai_Hd ai_ML y := fun y h => (Nat.lt_or_eq_of_le (Nat.le_of_lt_succ h)).elim (al_254 hl y) (fun e => e ▸ my_254 hl)
theorem al_256 {l : Launch} (hl : l.stackTraces = false) : ∀ y, y < 256 → ai_My l ai_Mt ai_P ai_Hd ai_ML y := fun y h => (Nat.lt_or_eq_of_le (Nat.le_of_lt_succ h)).elim (al_255 hl y) (fun e => e ▸ my_255 hl)
theorem al_257 {l : Launch} (hl : l.stackTraces = false) : ∀ y, y < 257 → ai_My l ai_Mt ai_P ai_Hd ai_ML y := fun y h => (Nat.lt_or_eq_of_le (Nat.le_of_lt_succ h)).elim (al_256 hl y) (fun e => e ▸ my_256 hl)
theorem al_258 {l : Launch} (hl : l.stackTraces = false) : ∀ y, y < 258 → ai_My l ai_Mt ai_P ai_Hd ai_ML y := fun y h => (Nat.lt_or_eq_of_le (Nat.le_of_lt_succ h)).elim (al_257 hl y) (fun e => e ▸ my_257 hl)
theorem al_259 {l : Launch} (hl : l.stackTraces = false) : ∀ y, y < 259 → ai_My l ai_Mt ai_P ai_Hd ai_ML y := fun y h => (Nat.lt_or_eq_of_le (Nat.le_of_lt_succ h)).elim (al_258 hl y) (fun e => e ▸ my_258 hl)
theorem al_260 {l : Launch} (hl : l.stackTraces = false) : ∀ y, y < 260 → ai_My l ai_Mt ai_P ai_Hd ai_ML y := fun y h => (Nat.lt_or_eq_of_le (Nat.le_of_lt_succ h)).elim (al_259 hl y) (fun e => e ▸ my_259 hl)
theorem al_261 {l : Launch} (hl : l.stackTraces = false) : ∀ y, y < 261 → ai_My l ai_Mt ai_P ai_Hd ai_ML y := fun y h => (Nat.lt_or_eq_of_le (Nat.le_of_lt_succ h)).elim (al_260 hl y) (fun e => e ▸ my_260 hl)
theorem al_262 {l : Launch} (hl : l.stackTraces = false) : ∀ y, y < 262 → ai_My l ai_Mt ai_P ai_Hd ai_ML y := fun y h => (Nat.lt_or_eq_of_le (Nat.le_of_lt_succ h)).elim (al_261 hl y) (fun e => e ▸ my_261 hl)
theorem al_263 {l : Launch} (hl : l.stackTraces = false) : ∀ y, y < 263 → ai_My l ai_Mt ai_P ai_Hd ai_ML y := fun y h => (Nat.lt_or_eq_of_le (Nat.le_of_lt_succ h)).elim (al_262 hl y) (fun e => e ▸ my_262 hl)
theorem al_264 {l : Launch} (hl : l.stackTraces = false) : ∀ y, y < 264 → ai_My l ai_Mt ai_P ai_Hd ai_ML y := fun y h => (Nat.lt_or_eq_of_le (Nat.le_of_lt_succ h)).elim (al_263 hl y) (fun e => e ▸ my_263 hl)
theorem al_265 {l : Launch} (hl : l.stackTraces = false) : ∀ y, y < 265 → ai_My l ai_Mt ai_P ai_Hd ai_ML y := fun y h => (Nat.lt_or_eq_of_le (Nat.le_of_lt_succ h)).elim (al_264 hl y) (fun e => e ▸ my_264 hl)
theorem al_266 {l : Launch} (hl : l.stackTraces = false) : ∀ y, y < 266 → ai_My l ai_Mt ai_P ai_Hd ai_ML y := fun y h => (Nat.lt_or_eq_of_le (Nat.le_of_lt_succ h)).elim (al_265 hl y) (fun e => e ▸ my_265 hl)
theorem al_267 {l : Launch} (hl : l.stackTraces = false) : ∀ y, y < 267 → ai_My l ai_Mt ai_P ai_Hd ai_ML y := fun y h => (Nat.lt_or_eq_of_le (Nat.le_of_lt_succ h)).elim (al_266 hl y) (fun e => e ▸ my_266 hl)
theorem al_268 {l : Launch} (hl : l.stackTraces = false) : ∀ y, y < 268 → ai_My l ai_Mt ai_P ai_Hd ai_ML y := fun y h => (Nat.lt_or_eq_of_le (Nat.le_of_lt_succ h)).elim (al_267 hl y) (fun e => e ▸ my_267 hl)
theorem al_269 {l : Launch} (hl : l.stackTraces = false) : ∀ y, y < 269 → ai_My l ai_Mt ai_P ai_Hd ai_ML y := fun y h => (Nat.lt_or_eq_of_le (Nat.le_of_lt_succ h)).elim (al_268 hl y) (fun e => e ▸ my_268 hl)
theorem al_270 {l : Launch} (hl : l.stackTraces = false) : ∀ y, y < 270 → ai_My l ai_Mt ai_P ai_Hd ai_ML y := fun y h => (Nat.lt_or_eq_of_le (Nat.le_of_lt_succ h)).elim (al_269 hl y) (fun e => e ▸ my_269 hl)
theorem al_271 {l : Launch} (hl : l.stackTraces = false) : ∀ y, y < 271 → ai_My l ai_Mt ai_P ai_Hd ai_ML y := fun y h => (Nat.lt_or_eq_of_le (Nat.le_of_lt_succ h)).elim (al_270 hl y) (fun e => e ▸ my_270 hl)
theorem ai_all {l : Launch} (hl : l.stackTraces = false) : ∀ y, ai_My l ai_Mt ai_P ai_Hd ai_ML y := by
  intro y
  by_cases h : y < 271
  · exact al_271 hl y h
  · intro D aC A d ih vs hp n o he
    obtain ⟨-, k, hk⟩ := he
    exact (ai_lp_none (by simp only [ai_P, if_neg h]) k hk).elim
