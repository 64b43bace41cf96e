theorem oX0_init : mdok mX0_init = true := by decide +kernel
theorem oX0_gather : mdok mX0_gather = true := by decide +kernel
theorem oX0_add : mdok mX0_add = true := by decide +kernel
theorem oX0_addSeen : mdok mX0_addSeen = true := by decide +kernel
theorem oX0_addSpan : mdok mX0_addSpan = true := by decide +kernel
theorem oX0_addWas : mdok mX0_addWas = true := by decide +kernel
theorem oX0_allows : mdok mX0_allows = true := by decide +kernel
theorem oX0_mayChoose : mdok mX0_mayChoose = true := by decide +kernel
theorem oX0_flagsAfter : mdok mX0_flagsAfter = true := by decide +kernel
theorem oX0_costOf : mdok mX0_costOf = true := by decide +kernel
theorem oX1_init : mdok mX1_init = true := by decide +kernel
theorem oX1_become : mdok mX1_become = true := by decide +kernel
theorem oX1_openAll : mdok mX1_openAll = true := by decide +kernel
theorem oX1_addSo : mdok mX1_addSo = true := by decide +kernel
theorem oX1_addAbove : mdok mX1_addAbove = true := by decide +kernel
theorem oX1_isMet : mdok mX1_isMet = true := by decide +kernel
theorem oX2_init : mdok mX2_init = true := by decide +kernel
theorem oX2_find : mdok mX2_find = true := by decide +kernel
theorem oX2_sizeUp : mdok mX2_sizeUp = true := by decide +kernel
theorem oX2_keepBest : mdok mX2_keepBest = true := by decide +kernel
theorem oX2_clearCosts : mdok mX2_clearCosts = true := by decide +kernel
theorem oX2_clearWays : mdok mX2_clearWays = true := by decide +kernel
theorem oX2_dropUnkept : mdok mX2_dropUnkept = true := by decide +kernel
theorem oX2_tally : mdok mX2_tally = true := by decide +kernel
theorem oX2_soOf : mdok mX2_soOf = true := by decide +kernel
theorem oX2_surely : mdok mX2_surely = true := by decide +kernel
theorem oX2_layerOf : mdok mX2_layerOf = true := by decide +kernel
theorem oX2_walk : mdok mX2_walk = true := by decide +kernel
theorem oX2_gatherLooks : mdok mX2_gatherLooks = true := by decide +kernel
theorem oX2_goesOnAsOne : mdok mX2_goesOnAsOne = true := by decide +kernel
theorem oX2_isReached : mdok mX2_isReached = true := by decide +kernel
theorem oX2_meet : mdok mX2_meet = true := by decide +kernel
theorem oX2_keep : mdok mX2_keep = true := by decide +kernel
theorem oX2_addTally : mdok mX2_addTally = true := by decide +kernel
theorem oX3_init : mdok mX3_init = true := by decide +kernel
theorem oX3_become : mdok mX3_become = true := by decide +kernel
theorem oX3_clear : mdok mX3_clear = true := by decide +kernel
theorem oX3_addEffect : mdok mX3_addEffect = true := by decide +kernel
theorem oX4_init : mdok mX4_init = true := by decide +kernel
theorem oX4_binds : mdok mX4_binds = true := by decide +kernel
theorem oX4_tells : mdok mX4_tells = true := by decide +kernel
theorem oX5_init : mdok mX5_init = true := by decide +kernel
theorem oX5_read : mdok mX5_read = true := by decide +kernel
theorem oX5_after : mdok mX5_after = true := by decide +kernel
theorem oX5_afterAtomBegan : mdok mX5_afterAtomBegan = true := by decide +kernel
theorem oX5_afterName : mdok mX5_afterName = true := by decide +kernel
theorem oX5_afterBound : mdok mX5_afterBound = true := by decide +kernel
theorem oX5_afterAtom : mdok mX5_afterAtom = true := by decide +kernel
theorem oX5_closeAtom : mdok mX5_closeAtom = true := by decide +kernel
theorem oX5_afterEffectBegan : mdok mX5_afterEffectBegan = true := by decide +kernel
theorem oX5_afterKept : mdok mX5_afterKept = true := by decide +kernel
theorem oX5_afterStilled : mdok mX5_afterStilled = true := by decide +kernel
theorem oX5_kindOf : mdok mX5_kindOf = true := by decide +kernel
theorem oX6_init : mdok mX6_init = true := by decide +kernel
theorem oX6_init_ : mdok mX6_init_ = true := by decide +kernel
theorem oX6_begin : mdok mX6_begin = true := by decide +kernel
theorem oX6_tells : mdok mX6_tells = true := by decide +kernel
theorem oX6_binds : mdok mX6_binds = true := by decide +kernel
theorem oX6_weighs : mdok mX6_weighs = true := by decide +kernel
theorem oX7_init : mdok mX7_init = true := by decide +kernel
theorem oX7_holdsRow : mdok mX7_holdsRow = true := by decide +kernel
theorem oX7_holdsPiece : mdok mX7_holdsPiece = true := by decide +kernel
theorem oX7_takeRow : mdok mX7_takeRow = true := by decide +kernel
theorem oX7_takePiece : mdok mX7_takePiece = true := by decide +kernel
theorem oX7_has : mdok mX7_has = true := by decide +kernel
theorem oX7_reaches : mdok mX7_reaches = true := by decide +kernel
theorem oX7_put : mdok mX7_put = true := by decide +kernel
theorem oX7_cellAt : mdok mX7_cellAt = true := by decide +kernel
theorem oX7_intAt : mdok mX7_intAt = true := by decide +kernel
theorem oX7_narrowed : mdok mX7_narrowed = true := by decide +kernel
theorem oX8_init : mdok mX8_init = true := by decide +kernel
theorem oX8_init_ : mdok mX8_init_ = true := by decide +kernel
theorem oX8_binds : mdok mX8_binds = true := by decide +kernel
theorem oX9_init : mdok mX9_init = true := by decide +kernel
theorem oX9_tells : mdok mX9_tells = true := by decide +kernel
theorem oX9_weighs : mdok mX9_weighs = true := by decide +kernel
theorem oX10_init : mdok mX10_init = true := by decide +kernel
theorem oX10_become : mdok mX10_become = true := by decide +kernel
theorem oX10_countOf : mdok mX10_countOf = true := by decide +kernel
theorem oX10_hasRoomFor : mdok mX10_hasRoomFor = true := by decide +kernel
theorem oX10_mostOf : mdok mX10_mostOf = true := by decide +kernel
theorem oX10_addThing : mdok mX10_addThing = true := by decide +kernel
theorem oX10_addHappening : mdok mX10_addHappening = true := by decide +kernel
theorem oX10_hasRoomForPiece : mdok mX10_hasRoomForPiece = true := by decide +kernel
theorem oX10_addPiece : mdok mX10_addPiece = true := by decide +kernel
theorem oX10_pieceAt : mdok mX10_pieceAt = true := by decide +kernel
theorem oX10_isPutBy : mdok mX10_isPutBy = true := by decide +kernel
theorem oX10_inForce : mdok mX10_inForce = true := by decide +kernel
theorem oX10_toldBy : mdok mX10_toldBy = true := by decide +kernel
theorem oX10_weightOf : mdok mX10_weightOf = true := by decide +kernel
theorem oX10_isSeenIn : mdok mX10_isSeenIn = true := by decide +kernel
theorem oX10_freeLooks : mdok mX10_freeLooks = true := by decide +kernel
theorem oX10_lowStates : mdok mX10_lowStates = true := by decide +kernel
theorem oX10_fillTables : mdok mX10_fillTables = true := by decide +kernel
theorem oX10_truthOf : mdok mX10_truthOf = true := by decide +kernel
theorem oX10_isThingSo : mdok mX10_isThingSo = true := by decide +kernel
theorem oX10_nextOf : mdok mX10_nextOf = true := by decide +kernel
theorem oX11_init : mdok mX11_init = true := by decide +kernel
theorem oX11_row : mdok mX11_row = true := by decide +kernel
theorem oX11_set : mdok mX11_set = true := by decide +kernel
theorem oX11_copy : mdok mX11_copy = true := by decide +kernel
theorem oX11_element : mdok mX11_element = true := by decide +kernel
theorem oX11_show : mdok mX11_show = true := by decide +kernel
theorem oX11_holds : mdok mX11_holds = true := by decide +kernel
theorem oX11_says : mdok mX11_says = true := by decide +kernel
theorem oX11_thing : mdok mX11_thing = true := by decide +kernel
theorem oX11_happening : mdok mX11_happening = true := by decide +kernel
theorem oX11_fault : mdok mX11_fault = true := by decide +kernel
theorem oX11_price : mdok mX11_price = true := by decide +kernel
theorem oX11_weigh : mdok mX11_weigh = true := by decide +kernel
theorem oX11_seen : mdok mX11_seen = true := by decide +kernel
theorem oX11_span : mdok mX11_span = true := by decide +kernel
theorem oX11_was : mdok mX11_was = true := by decide +kernel
theorem oX11_sheet : mdok mX11_sheet = true := by decide +kernel
theorem oX11_by : mdok mX11_by = true := by decide +kernel
theorem oX11_pieceOf : mdok mX11_pieceOf = true := by decide +kernel
theorem oX11_least : mdok mX11_least = true := by decide +kernel
theorem oX11_courses : mdok mX11_courses = true := by decide +kernel
theorem oX11_is : mdok mX11_is = true := by decide +kernel
theorem oX11_value : mdok mX11_value = true := by decide +kernel
theorem oX11_why : mdok mX11_why = true := by decide +kernel
theorem oX11_quarrel : mdok mX11_quarrel = true := by decide +kernel
theorem oX11_out : mdok mX11_out = true := by decide +kernel
theorem oX11_must : mdok mX11_must = true := by decide +kernel
theorem oX11_could : mdok mX11_could = true := by decide +kernel
theorem oX11_ever : mdok mX11_ever = true := by decide +kernel
theorem oX11_howLong : mdok mX11_howLong = true := by decide +kernel
theorem oX11_since : mdok mX11_since = true := by decide +kernel
theorem oX11_plan : mdok mX11_plan = true := by decide +kernel
theorem oX11_seemed : mdok mX11_seemed = true := by decide +kernel
theorem oX11_act : mdok mX11_act = true := by decide +kernel
theorem oX11_trace : mdok mX11_trace = true := by decide +kernel
theorem oX11_image : mdok mX11_image = true := by decide +kernel
theorem oX11_restore : mdok mX11_restore = true := by decide +kernel
theorem oX11_status : mdok mX11_status = true := by decide +kernel
theorem oX11_refuse : mdok mX11_refuse = true := by decide +kernel
theorem oX11_isShelf : mdok mX11_isShelf = true := by decide +kernel
theorem oX11_isKind : mdok mX11_isKind = true := by decide +kernel
theorem oX11_isMouth : mdok mX11_isMouth = true := by decide +kernel
theorem oX11_isHour : mdok mX11_isHour = true := by decide +kernel
theorem oX11_areHours : mdok mX11_areHours = true := by decide +kernel
theorem oX11_isNumber : mdok mX11_isNumber = true := by decide +kernel
theorem oX11_isThing : mdok mX11_isThing = true := by decide +kernel
theorem oX11_isHappening : mdok mX11_isHappening = true := by decide +kernel
theorem oX11_isRunning : mdok mX11_isRunning = true := by decide +kernel
theorem oX11_canHave : mdok mX11_canHave = true := by decide +kernel
theorem oX11_isOf : mdok mX11_isOf = true := by decide +kernel
theorem oX11_rowTrouble : mdok mX11_rowTrouble = true := by decide +kernel
theorem oX11_readingTrouble : mdok mX11_readingTrouble = true := by decide +kernel
theorem oX11_tell : mdok mX11_tell = true := by decide +kernel
theorem oX11_tellFrom : mdok mX11_tellFrom = true := by decide +kernel
theorem oX11_current : mdok mX11_current = true := by decide +kernel
theorem oX11_freshenTruth : mdok mX11_freshenTruth = true := by decide +kernel
theorem oX11_seems : mdok mX11_seems = true := by decide +kernel
theorem oX11_wouldBring : mdok mX11_wouldBring = true := by decide +kernel
theorem oX11_inSome : mdok mX11_inSome = true := by decide +kernel
theorem oX11_joined : mdok mX11_joined = true := by decide +kernel
theorem oX12_init : mdok mX12_init = true := by decide +kernel
theorem oX12_no : mdok mX12_no = true := by decide +kernel
theorem oX12_isShelf : mdok mX12_isShelf = true := by decide +kernel
theorem oX12_isRow : mdok mX12_isRow = true := by decide +kernel
theorem oX12_holdsPiece : mdok mX12_holdsPiece = true := by decide +kernel
theorem oX12_isThing : mdok mX12_isThing = true := by decide +kernel
theorem oX12_isHappening : mdok mX12_isHappening = true := by decide +kernel
theorem oX12_isPiece : mdok mX12_isPiece = true := by decide +kernel
theorem oX12_isMouth : mdok mX12_isMouth = true := by decide +kernel
theorem oX12_isHour : mdok mX12_isHour = true := by decide +kernel
theorem oX12_areHours : mdok mX12_areHours = true := by decide +kernel
theorem oX12_row : mdok mX12_row = true := by decide +kernel
theorem oX12_noRow : mdok mX12_noRow = true := by decide +kernel
theorem oX12_set : mdok mX12_set = true := by decide +kernel
theorem oX12_copy : mdok mX12_copy = true := by decide +kernel
theorem oX12_element : mdok mX12_element = true := by decide +kernel
theorem oX12_show : mdok mX12_show = true := by decide +kernel
theorem oX12_holds : mdok mX12_holds = true := by decide +kernel
theorem oX12_says : mdok mX12_says = true := by decide +kernel
theorem oX12_letter : mdok mX12_letter = true := by decide +kernel
theorem oX12_isDigitOf : mdok mX12_isDigitOf = true := by decide +kernel
theorem oX12_overCondition : mdok mX12_overCondition = true := by decide +kernel
theorem oX12_conditionFault : mdok mX12_conditionFault = true := by decide +kernel
theorem oX12_lawFault : mdok mX12_lawFault = true := by decide +kernel
theorem oX12_many : mdok mX12_many = true := by decide +kernel
theorem oX12_thing : mdok mX12_thing = true := by decide +kernel
theorem oX12_happening : mdok mX12_happening = true := by decide +kernel
theorem oX12_fault : mdok mX12_fault = true := by decide +kernel
theorem oX12_price : mdok mX12_price = true := by decide +kernel
theorem oX12_weigh : mdok mX12_weigh = true := by decide +kernel
theorem oX12_piece : mdok mX12_piece = true := by decide +kernel
theorem oX12_spanPieces : mdok mX12_spanPieces = true := by decide +kernel
theorem oX12_seen : mdok mX12_seen = true := by decide +kernel
theorem oX12_span : mdok mX12_span = true := by decide +kernel
theorem oX12_isValue : mdok mX12_isValue = true := by decide +kernel
theorem oX12_was : mdok mX12_was = true := by decide +kernel
theorem oX12_sheet : mdok mX12_sheet = true := by decide +kernel
theorem oX12_by : mdok mX12_by = true := by decide +kernel
theorem oX12_pieceOf : mdok mX12_pieceOf = true := by decide +kernel
theorem oX12_holds_ : mdok mX12_holds_ = true := by decide +kernel
theorem oX12_thenOf : mdok mX12_thenOf = true := by decide +kernel
theorem oX12_makeMoments : mdok mX12_makeMoments = true := by decide +kernel
theorem oX12_tell : mdok mX12_tell = true := by decide +kernel
theorem oX12_gather : mdok mX12_gather = true := by decide +kernel
theorem oX12_edgesOf : mdok mX12_edgesOf = true := by decide +kernel
theorem oX12_solve : mdok mX12_solve = true := by decide +kernel
theorem oX12_isLeast : mdok mX12_isLeast = true := by decide +kernel
theorem oX12_all : mdok mX12_all = true := by decide +kernel
theorem oX12_least : mdok mX12_least = true := by decide +kernel
theorem oX12_courses : mdok mX12_courses = true := by decide +kernel
theorem oX12_doIn : mdok mX12_doIn = true := by decide +kernel
theorem oX12_isOf : mdok mX12_isOf = true := by decide +kernel
theorem oX12_is : mdok mX12_is = true := by decide +kernel
theorem oX12_value : mdok mX12_value = true := by decide +kernel
theorem oX12_why : mdok mX12_why = true := by decide +kernel
theorem oX12_quarrel : mdok mX12_quarrel = true := by decide +kernel
theorem oX12_out : mdok mX12_out = true := by decide +kernel
theorem oX12_often : mdok mX12_often = true := by decide +kernel
theorem oX12_told : mdok mX12_told = true := by decide +kernel
theorem oX12_must : mdok mX12_must = true := by decide +kernel
theorem oX12_could : mdok mX12_could = true := by decide +kernel
theorem oX12_ever : mdok mX12_ever = true := by decide +kernel
theorem oX12_howLong : mdok mX12_howLong = true := by decide +kernel
theorem oX12_since : mdok mX12_since = true := by decide +kernel
theorem oX12_surelyMay : mdok mX12_surelyMay = true := by decide +kernel
theorem oX12_plan : mdok mX12_plan = true := by decide +kernel
theorem oX12_seemed : mdok mX12_seemed = true := by decide +kernel
theorem oX12_ran : mdok mX12_ran = true := by decide +kernel
theorem oX12_tells : mdok mX12_tells = true := by decide +kernel
theorem oX12_binds : mdok mX12_binds = true := by decide +kernel
theorem oX12_weighs : mdok mX12_weighs = true := by decide +kernel
theorem oX12_act : mdok mX12_act = true := by decide +kernel
theorem oX12_trace : mdok mX12_trace = true := by decide +kernel
theorem oX12_pour : mdok mX12_pour = true := by decide +kernel
theorem oX12_image : mdok mX12_image = true := by decide +kernel
theorem oX12_restore : mdok mX12_restore = true := by decide +kernel
theorem oX12_status : mdok mX12_status = true := by decide +kernel
theorem oJ6_bitCount_0f7a4 : mdok mJ6_bitCount_0f7a4 = true := by decide +kernel
theorem oJ7_fill_d0a16 : mdok mJ7_fill_d0a16 = true := by decide +kernel
theorem oJ7_fill_53178 : mdok mJ7_fill_53178 = true := by decide +kernel
/-! ===== where what lies ===== -/
def CO (c : Nat) : Prop := slT[c]? = some (11, 0, [0, c + 1, c + 2, c + 3, c + 4]) ∧ slT[c + 1]? = some (0, 30, []) ∧ slT[c + 2]? = some (0, 30, []) ∧ slT[c + 3]? = some (0, 30, []) ∧ slT[c + 4]? = some (0, 30, [])
def LA (a : Nat) : Prop := slT[a]? = some (13, 0, [a + 1, 0, 0, 0, 0, 0]) ∧ CO (a + 1)
def WO (w : Nat) : Prop := slT[w]? = some (20, 0, [0, 0, 0, 0, w + 1, w + 2, w + 3, w + 4, w + 5, w + 6]) ∧ slT[w + 1]? = some (0, 10, []) ∧ slT[w + 2]? = some (0, 10, []) ∧ slT[w + 3]? = some (3, 10, (List.range 10).map fun i => w + 7 + 5 * i) ∧ slT[w + 4]? = some (4, 6, (List.range 6).map fun i => w + 57 + 6 * i) ∧ slT[w + 5]? = some (5, 16, []) ∧ slT[w + 6]? = some (0, 6, [])
def SH (a : Nat) : Prop := slT[a]? = some (17, 0, [0, 0, a + 1]) ∧ slT[a + 1]? = some (1, 60, [])
def AS (a : Nat) : Prop := slT[a]? = some (10, 0, [2, a + 1, a + 2, a + 3, a + 4, a + 5, a + 6, a + 7, 0]) ∧ slT[a + 1]? = some (0, 12, []) ∧ slT[a + 2]? = some (0, 12, []) ∧ slT[a + 3]? = some (0, 12, []) ∧ slT[a + 4]? = some (0, 12, []) ∧ slT[a + 5]? = some (0, 12, []) ∧ slT[a + 6]? = some (0, 84, []) ∧ slT[a + 7]? = some (0, 12, [])
def CU (c : Nat) : Prop := slT[c]? = some (12, 0, [2, 195, 196, c + 8, c + 1, c + 2, c + 3, 0, 0, 0, 0, 0, 0, 0, c + 4, c + 5, c + 6, c + 7]) ∧ slT[c + 1]? = some (0, 13312, []) ∧ slT[c + 2]? = some (1, 2048, []) ∧ slT[c + 3]? = some (0, 1024, []) ∧ slT[c + 4]? = some (0, 12, []) ∧ slT[c + 5]? = some (0, 12, []) ∧ slT[c + 6]? = some (0, 12, []) ∧ slT[c + 7]? = some (0, 12, []) ∧ AS (c + 8)
theorem WO2 : WO 2 := by unfold WO; decide +kernel
theorem WO95 : WO 95 := by unfold WO; decide +kernel
theorem CO190 : CO 190 := by unfold CO; decide +kernel
theorem LA189 : LA 189 := by unfold LA CO; decide +kernel
theorem CU197 : CU 197 := ⟨by decide +kernel, by decide +kernel, by decide +kernel, by decide +kernel, by decide +kernel, by decide +kernel, by decide +kernel, by decide +kernel, by decide +kernel, by decide +kernel, by decide +kernel, by decide +kernel, by decide +kernel, by decide +kernel, by decide +kernel, by decide +kernel⟩
theorem CU213 : CU 213 := ⟨by decide +kernel, by decide +kernel, by decide +kernel, by decide +kernel, by decide +kernel, by decide +kernel, by decide +kernel, by decide +kernel, by decide +kernel, by decide +kernel, by decide +kernel, by decide +kernel, by decide +kernel, by decide +kernel, by decide +kernel, by decide +kernel⟩
theorem CO_w : ∀ w, w = 2 ∨ w = 95 → ∀ i, i < 10 → CO (w + 7 + 5 * i) := by
  rintro w (rfl | rfl) i hi
  · rcases (show i = 0 ∨ i = 1 ∨ i = 2 ∨ i = 3 ∨ i = 4 ∨ i = 5 ∨ i = 6 ∨ i = 7 ∨ i = 8 ∨ i = 9 by omega) with rfl | rfl | rfl | rfl | rfl | rfl | rfl | rfl | rfl | rfl <;> (unfold CO; decide +kernel)
  · rcases (show i = 0 ∨ i = 1 ∨ i = 2 ∨ i = 3 ∨ i = 4 ∨ i = 5 ∨ i = 6 ∨ i = 7 ∨ i = 8 ∨ i = 9 by omega) with rfl | rfl | rfl | rfl | rfl | rfl | rfl | rfl | rfl | rfl <;> (unfold CO; decide +kernel)
theorem LA_w : ∀ w, w = 2 ∨ w = 95 → ∀ i, i < 6 → LA (w + 57 + 6 * i) := by
  rintro w (rfl | rfl) i hi
  · rcases (show i = 0 ∨ i = 1 ∨ i = 2 ∨ i = 3 ∨ i = 4 ∨ i = 5 by omega) with rfl | rfl | rfl | rfl | rfl | rfl <;> (unfold LA CO; decide +kernel)
  · rcases (show i = 0 ∨ i = 1 ∨ i = 2 ∨ i = 3 ∨ i = 4 ∨ i = 5 by omega) with rfl | rfl | rfl | rfl | rfl | rfl <;> (unfold LA CO; decide +kernel)
theorem SH_s : ∀ s, s < 8 → SH (231 + 2 * s) := by unfold SH; decide +kernel
theorem SW0 : slT[0]? = some (21, 0, [1, 2, 95, 188, 195, 196, 197, 213, 229, 230, 0, 0, 0, 0]) := by decide +kernel
theorem SW1 : slT[1]? = some (2, 8, (List.range 8).map fun s => 231 + 2 * s) := by decide +kernel
theorem RD188 : slT[188]? = some (15, 0, [2, 189, 0, 0, 0, 0, 0]) := by decide +kernel
theorem TR195 : slT[195]? = some (0, 1024, []) := by decide +kernel
theorem NX196 : slT[196]? = some (0, 7168, []) := by decide +kernel
theorem RF229 : slT[229]? = some (0, 8, []) := by decide +kernel
theorem LA230 : slT[230]? = some (0, 21, []) := by decide +kernel
theorem rng_at {n j : Nat} {g : Nat → Nat} (h : j < n) : ((List.range n).map g)[j]? = some (g j) := by
  rw [List.getElem?_map, List.getElem?_range h]
  rfl
/-! ints that are small numbers -/
theorem nI_mul (a b : Nat) : nI a * nI b = nI (a * b) := pk_mul a b
theorem nI_lit (n : Nat) : (OfNat.ofNat n : Int32) = nI n := rfl
section NB
variable {G : GP} {md : MD} {f : Nat × Nat} {pc : Nat} {L st : List Value} {M : SMem} {P : Option Value → SMem → Prop} {x y : Int32} {a b : Nat} {off : Int}
theorem N_icmp_eq (tgt : Nat) (hd : decode md.2.2.1 pc = .ok (.if_icmp .eq off, 3)) (ht : (pc : Int) + off = (tgt : Int)) (ha : a < 2 ^ 31) (hb : b < 2 ^ 31) (kt : a = b → E G md f tgt L st M P) (kf : ¬ a = b → E G md f (pc + 3) L st M P) : E G md f pc L (.int (nI b) :: .int (nI a) :: st) M P :=
  E_icmp_eq tgt hd ht (fun h => kt ((nI_eq ha hb).mp h)) (fun h => kf fun q => h ((nI_eq ha hb).mpr q))
theorem N_icmp_ne (tgt : Nat) (hd : decode md.2.2.1 pc = .ok (.if_icmp .ne off, 3)) (ht : (pc : Int) + off = (tgt : Int)) (ha : a < 2 ^ 31) (hb : b < 2 ^ 31) (kt : ¬ a = b → E G md f tgt L st M P) (kf : a = b → E G md f (pc + 3) L st M P) : E G md f pc L (.int (nI b) :: .int (nI a) :: st) M P :=
  E_icmp_ne tgt hd ht (fun h => kt fun q => h ((nI_eq ha hb).mpr q)) (fun h => kf ((nI_eq ha hb).mp h))
theorem N_icmp_lt (tgt : Nat) (hd : decode md.2.2.1 pc = .ok (.if_icmp .lt off, 3)) (ht : (pc : Int) + off = (tgt : Int)) (ha : a < 2 ^ 31) (hb : b < 2 ^ 31) (kt : a < b → E G md f tgt L st M P) (kf : b ≤ a → E G md f (pc + 3) L st M P) : E G md f pc L (.int (nI b) :: .int (nI a) :: st) M P :=
  E_icmp_lt tgt hd ht (fun h => kt ((nI_ltI ha hb).mp h)) (fun h => kf (Nat.not_lt.mp fun q => h ((nI_ltI ha hb).mpr q)))
theorem N_icmp_ge (tgt : Nat) (hd : decode md.2.2.1 pc = .ok (.if_icmp .ge off, 3)) (ht : (pc : Int) + off = (tgt : Int)) (ha : a < 2 ^ 31) (hb : b < 2 ^ 31) (kt : b ≤ a → E G md f tgt L st M P) (kf : a < b → E G md f (pc + 3) L st M P) : E G md f pc L (.int (nI b) :: .int (nI a) :: st) M P :=
  E_icmp_ge tgt hd ht (fun h => kt ((nI_leI hb ha).mp h)) (fun h => kf (Nat.not_le.mp fun q => h ((nI_leI hb ha).mpr q)))
theorem N_icmp_gt (tgt : Nat) (hd : decode md.2.2.1 pc = .ok (.if_icmp .gt off, 3)) (ht : (pc : Int) + off = (tgt : Int)) (ha : a < 2 ^ 31) (hb : b < 2 ^ 31) (kt : b < a → E G md f tgt L st M P) (kf : a ≤ b → E G md f (pc + 3) L st M P) : E G md f pc L (.int (nI b) :: .int (nI a) :: st) M P :=
  E_icmp_gt tgt hd ht (fun h => kt ((nI_ltI hb ha).mp h)) (fun h => kf (Nat.not_lt.mp fun q => h ((nI_ltI hb ha).mpr q)))
theorem N_icmp_le (tgt : Nat) (hd : decode md.2.2.1 pc = .ok (.if_icmp .le off, 3)) (ht : (pc : Int) + off = (tgt : Int)) (ha : a < 2 ^ 31) (hb : b < 2 ^ 31) (kt : a ≤ b → E G md f tgt L st M P) (kf : b < a → E G md f (pc + 3) L st M P) : E G md f pc L (.int (nI b) :: .int (nI a) :: st) M P :=
  E_icmp_le tgt hd ht (fun h => kt ((nI_leI ha hb).mp h)) (fun h => kf (Nat.not_le.mp fun q => h ((nI_leI ha hb).mpr q)))
theorem N_if_eq (tgt : Nat) (hd : decode md.2.2.1 pc = .ok (.ifCond .eq off, 3)) (ht : (pc : Int) + off = (tgt : Int)) (ha : a < 2 ^ 31) (kt : a = 0 → E G md f tgt L st M P) (kf : ¬ a = 0 → E G md f (pc + 3) L st M P) : E G md f pc L (.int (nI a) :: st) M P :=
  E_if_eq tgt hd ht (fun h => kt ((nI_eq (b := 0) ha (by omega)).mp h)) (fun h => kf fun q => h ((nI_eq (b := 0) ha (by omega)).mpr q))
theorem N_if_ne (tgt : Nat) (hd : decode md.2.2.1 pc = .ok (.ifCond .ne off, 3)) (ht : (pc : Int) + off = (tgt : Int)) (ha : a < 2 ^ 31) (kt : ¬ a = 0 → E G md f tgt L st M P) (kf : a = 0 → E G md f (pc + 3) L st M P) : E G md f pc L (.int (nI a) :: st) M P :=
  E_if_ne tgt hd ht (fun h => kt fun q => h ((nI_eq (b := 0) ha (by omega)).mpr q)) (fun h => kf ((nI_eq (b := 0) ha (by omega)).mp h))
/-- a number that isn't below 0 is small -/
theorem nn_of {x : Int32} (h : ¬ x < 0) : ∃ n : Nat, n < 2 ^ 31 ∧ x = nI n := nI_of h
end NB
theorem nI_inc (n k : Nat) : nI n + Int32.ofInt (k : Int) = nI (n + k) := by rw [nI_ofInt, nI_add]
theorem nI_dec (n : Nat) : nI (n + 1) + Int32.ofInt (-1) = nI n := by
  have : Int32.ofInt (-1) = (-1 : Int32) := by decide
  rw [this]
  exact pk_m1 n
theorem nI_and (a b : Nat) : nI a &&& nI b = nI (a &&& b) := by
  apply Int32.toBitVec_inj.mp
  show BitVec.ofNat 32 a &&& BitVec.ofNat 32 b = BitVec.ofNat 32 (a &&& b)
  apply BitVec.eq_of_toNat_eq
  simp only [BitVec.toNat_and, BitVec.toNat_ofNat, Nat.and_mod_two_pow]
theorem nI_or (a b : Nat) : nI a ||| nI b = nI (a ||| b) := by
  apply Int32.toBitVec_inj.mp
  show BitVec.ofNat 32 a ||| BitVec.ofNat 32 b = BitVec.ofNat 32 (a ||| b)
  apply BitVec.eq_of_toNat_eq
  simp only [BitVec.toNat_or, BitVec.toNat_ofNat, Nat.or_mod_two_pow]
theorem nI_xor (a b : Nat) : nI a ^^^ nI b = nI (a ^^^ b) := by
  apply Int32.toBitVec_inj.mp
  show BitVec.ofNat 32 a ^^^ BitVec.ofNat 32 b = BitVec.ofNat 32 (a ^^^ b)
  apply BitVec.eq_of_toNat_eq
  simp only [BitVec.toNat_xor, BitVec.toNat_ofNat, Nat.xor_mod_two_pow]
theorem nI_sub {a b : Nat} (h : b ≤ a) : nI a - nI b = nI (a - b) := pk_sub h
theorem sh_amt {k : Nat} (h : k < 32) : nI k &&& 31 = nI k := by
  rw [show (31 : Int32) = nI 31 from rfl, nI_and, show (31 : Nat) = 2 ^ 5 - 1 from rfl, Nat.and_two_pow_sub_one_eq_mod, Nat.mod_eq_of_lt (by omega)]
theorem sh_smod {k : Nat} (h : k < 32) : ((nI k).toBitVec.smod 32).toNat = k := by
  revert k
  decide +kernel
theorem nI_shl {a k : Nat} (h : k < 32) : nI a <<< (nI k &&& 31) = nI (a <<< k) := by
  rw [sh_amt h]
  apply Int32.toBitVec_inj.mp
  apply BitVec.eq_of_toNat_eq
  rw [pk_shl _ _ k (sh_smod h)]
  show (BitVec.ofNat 32 a).toNat * 2 ^ k % 2 ^ 32 = (BitVec.ofNat 32 (a <<< k)).toNat
  rw [BitVec.toNat_ofNat, BitVec.toNat_ofNat, Nat.shiftLeft_eq, Nat.mod_mul_mod]
theorem nI_shr {a k : Nat} (h1 : a < 2 ^ 31) (h : k < 32) : nI a >>> (nI k &&& 31) = nI (a >>> k) := by
  rw [sh_amt h, pk_shrN h1 _ k (sh_smod h), Nat.shiftRight_eq_div_pow]
section VV
variable {G : GP} {md : MD} {f : Nat × Nat} {pc : Nat} {L st : List Value} {σ : ST} {P : Option Value → SMem → Prop} {idx k a ci n j : Nat} {ref : String} {cs refs : List Nat} {v : Int32}
theorem V_getI (hf : FOK md.1 idx k ref cs) (hd : decode md.2.2.1 pc = .ok (.getfield idx, 3)) (ho : (ent σ)[a]? = some (ci + 10, n, refs)) (hc : ci ∈ cs) (hk : fI ci k = true) (hv : σ.1 a k = v) (kk : E G md f (pc + 3) L (.int v :: st) (mem σ) P) : E G md f pc L (.ref a :: st) (mem σ) P := R_getI hf hd ho hc hk (hv ▸ kk)
theorem V_iald {i : Int32} (hd : decode md.2.2.1 pc = .ok (.iaload, 1)) (ho : (ent σ)[a]? = some (0, n, refs)) (hi : i = nI j) (hj : j < n) (hn : n < 2 ^ 31) (hv : σ.1 a j = v) (kk : E G md f (pc + 1) L (.int v :: st) (mem σ) P) : E G md f pc L (.int i :: .ref a :: st) (mem σ) P := R_iald hd ho hi hj hn (hv ▸ kk)
end VV
theorem MO247 : slT[247]? = some (22, 0, [0, 248, 249, 250, 0, 251, 252, 253, 254, 0, 255, 256, 257, 258, 259, 260, 261, 262, 263, 264, 265, 0, 0, 266, 267, 268, 269, 0, 0, 0, 270, 271, 272, 273, 274, 275, 0, 276, 277, 0, 0, 278, 279, 280, 281, 282, 283, 284, 285, 286, 287, 288, 0, 0, 289, 290, 291, 292, 293, 294, 0, 295]) := by decide +kernel
theorem MA248 : slT[248]? = some (0, 10, []) := by decide +kernel
theorem MA249 : slT[249]? = some (0, 10, []) := by decide +kernel
theorem MA250 : slT[250]? = some (0, 600, []) := by decide +kernel
theorem MA251 : slT[251]? = some (0, 6, []) := by decide +kernel
theorem MA252 : slT[252]? = some (0, 360, []) := by decide +kernel
theorem MA253 : slT[253]? = some (0, 6, []) := by decide +kernel
theorem MA254 : slT[254]? = some (0, 6, []) := by decide +kernel
theorem MA255 : slT[255]? = some (0, 16, []) := by decide +kernel
theorem MA256 : slT[256]? = some (0, 16, []) := by decide +kernel
theorem MA257 : slT[257]? = some (0, 16, []) := by decide +kernel
theorem MA258 : slT[258]? = some (0, 16, []) := by decide +kernel
theorem MA259 : slT[259]? = some (0, 16, []) := by decide +kernel
theorem MA260 : slT[260]? = some (0, 16, []) := by decide +kernel
theorem MA261 : slT[261]? = some (0, 16, []) := by decide +kernel
theorem MA262 : slT[262]? = some (0, 6, []) := by decide +kernel
theorem MA263 : slT[263]? = some (0, 8, []) := by decide +kernel
theorem MA264 : slT[264]? = some (0, 8, []) := by decide +kernel
theorem MA265 : slT[265]? = some (1, 480, []) := by decide +kernel
theorem MA266 : slT[266]? = some (0, 10, []) := by decide +kernel
theorem MA267 : slT[267]? = some (0, 1024, []) := by decide +kernel
theorem MA268 : slT[268]? = some (0, 1024, []) := by decide +kernel
theorem MA269 : slT[269]? = some (0, 7168, []) := by decide +kernel
theorem MA270 : slT[270]? = some (0, 12, []) := by decide +kernel
theorem MA271 : slT[271]? = some (0, 12, []) := by decide +kernel
theorem MA272 : slT[272]? = some (0, 12, []) := by decide +kernel
theorem MA273 : slT[273]? = some (0, 12, []) := by decide +kernel
theorem MA274 : slT[274]? = some (0, 12, []) := by decide +kernel
theorem MA275 : slT[275]? = some (0, 2, []) := by decide +kernel
theorem MA276 : slT[276]? = some (0, 13312, []) := by decide +kernel
theorem MA277 : slT[277]? = some (0, 13312, []) := by decide +kernel
theorem MA278 : slT[278]? = some (0, 28, []) := by decide +kernel
theorem MA279 : slT[279]? = some (0, 28, []) := by decide +kernel
theorem MA280 : slT[280]? = some (0, 28, []) := by decide +kernel
theorem MA281 : slT[281]? = some (0, 28, []) := by decide +kernel
theorem MA282 : slT[282]? = some (0, 1024, []) := by decide +kernel
theorem MA283 : slT[283]? = some (0, 1024, []) := by decide +kernel
theorem MA284 : slT[284]? = some (0, 1024, []) := by decide +kernel
theorem MA285 : slT[285]? = some (0, 1024, []) := by decide +kernel
theorem MA286 : slT[286]? = some (1, 1024, []) := by decide +kernel
theorem MA287 : slT[287]? = some (1, 1024, []) := by decide +kernel
theorem MA288 : slT[288]? = some (0, 20, []) := by decide +kernel
theorem MA289 : slT[289]? = some (0, 3, []) := by decide +kernel
theorem MA290 : slT[290]? = some (0, 620, []) := by decide +kernel
theorem MA291 : slT[291]? = some (0, 378, []) := by decide +kernel
theorem MA292 : slT[292]? = some (0, 112, []) := by decide +kernel
theorem MA293 : slT[293]? = some (0, 6, []) := by decide +kernel
theorem MA294 : slT[294]? = some (0, 8, []) := by decide +kernel
theorem MA295 : slT[295]? = some (0, 12, []) := by decide +kernel

