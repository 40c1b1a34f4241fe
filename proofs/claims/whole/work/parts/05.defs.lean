theorem ev_ti {w : Cond} (i : Nat) (h : tables_1[i]? = some w) (hg : goodWord w = true) : w ∈ ev_T := ev_Tin (List.mem_append_right _ (List.mem_of_getElem? h)) hg
theorem ev_pi {w : Cond} (i : Nat) (h : (k2_sels lw_privs)[i]? = some w) (hg : goodWord w = true) : w ∈ ev_T := ev_Tin (List.mem_append_left _ (List.mem_of_getElem? h)) hg
def ev_k0 : Nat → Nat := fun _ => 0
def ev_R (r0 : Option Value) (M0 : ev_Mem) : Option Value → ev_Mem → Prop := fun r M' => r = r0 ∧ M' = M0
/-- fewer locals are known -/
def ev_sub : List (Option Value) → List (Option Value) → Prop
  | [], [] => True
  | none :: a, _ :: b => ev_sub a b
  | some v :: a, some w :: b => v = w ∧ ev_sub a b
  | _, _ => False
theorem ev_sub_ok : ∀ (a b : List (Option Value)), ev_sub a b → a.length = b.length ∧ ∀ (i : Nat) (v : Value), a[i]? = some (some v) → b[i]? = some (some v)
  | [], [], _ => ⟨rfl, fun _ _ h => h⟩
  | none :: a, o :: b, h => by
    have ih := ev_sub_ok a b (by cases o <;> exact h)
    refine ⟨by simp [ih.1], fun i v hi => ?_⟩
    cases i with
    | zero => simp at hi
    | succ i => exact ih.2 i v (by simpa using hi)
  | some v :: a, some w :: b, h => by
    obtain ⟨rfl, h⟩ := h
    have ih := ev_sub_ok a b h
    refine ⟨by simp [ih.1], fun i u hi => ?_⟩
    cases i with
    | zero => exact hi
    | succ i => exact ih.2 i u (by simpa using hi)
theorem Ev.weak {L : List ev_C} {d : Nat} {y : ev_Y} {pc : Nat} {ls ls2 : List (Option Value)} {st : List Value} {M : ev_Mem} {Q : Option Value → ev_Mem → Prop} (h : ev_sub ls ls2) (k : Ev L d y pc ls st M Q) : Ev L d y pc ls2 st M Q := by
  intro p l e R s m args below meth c H locs D ad ids lsA X hl
  obtain ⟨h1, h2⟩ := ev_sub_ok _ _ h
  exact k p l e R s m args below meth c H locs D ad ids lsA X ⟨hl.1, hl.2.1, by rw [h1]; exact hl.2.2.1, fun i v hi => hl.2.2.2 i v (h2 i v hi)⟩

theorem ev_t1 {w : Cond} (i : Nat) (h : tables_1_1[i]? = some w) (hg : goodWord w = true) : w ∈ ev_T := ev_Tin (List.mem_append_right _ (List.mem_append_left _ (List.mem_of_getElem? h))) hg
theorem ev_t2 {w : Cond} (i : Nat) (h : tables_1_2[i]? = some w) (hg : goodWord w = true) : w ∈ ev_T := ev_Tin (List.mem_append_right _ (List.mem_append_right _ (List.mem_append_left _ (List.mem_of_getElem? h)))) hg
theorem ev_t3 {w : Cond} (i : Nat) (h : tables_1_3[i]? = some w) (hg : goodWord w = true) : w ∈ ev_T := ev_Tin (List.mem_append_right _ (List.mem_append_right _ (List.mem_append_right _ (List.mem_append_left _ (List.mem_of_getElem? h))))) hg
theorem ev_t4 {w : Cond} (i : Nat) (h : tables_1_4[i]? = some w) (hg : goodWord w = true) : w ∈ ev_T := ev_Tin (List.mem_append_right _ (List.mem_append_right _ (List.mem_append_right _ (List.mem_append_right _ (List.mem_append_left _ (List.mem_of_getElem? h)))))) hg
theorem ev_t5 {w : Cond} (i : Nat) (h : tables_1_5[i]? = some w) (hg : goodWord w = true) : w ∈ ev_T := ev_Tin (List.mem_append_right _ (List.mem_append_right _ (List.mem_append_right _ (List.mem_append_right _ (List.mem_append_right _ (List.mem_append_left _ (List.mem_of_getElem? h))))))) hg
theorem ev_t6 {w : Cond} (i : Nat) (h : tables_1_6[i]? = some w) (hg : goodWord w = true) : w ∈ ev_T := ev_Tin (List.mem_append_right _ (List.mem_append_right _ (List.mem_append_right _ (List.mem_append_right _ (List.mem_append_right _ (List.mem_append_right _ (List.mem_append_left _ (List.mem_of_getElem? h)))))))) hg
theorem ev_t7 {w : Cond} (i : Nat) (h : tables_1_7[i]? = some w) (hg : goodWord w = true) : w ∈ ev_T := ev_Tin (List.mem_append_right _ (List.mem_append_right _ (List.mem_append_right _ (List.mem_append_right _ (List.mem_append_right _ (List.mem_append_right _ (List.mem_append_right _ (List.mem_append_left _ (List.mem_of_getElem? h))))))))) hg
theorem ev_t8 {w : Cond} (i : Nat) (h : tables_1_8[i]? = some w) (hg : goodWord w = true) : w ∈ ev_T := ev_Tin (List.mem_append_right _ (List.mem_append_right _ (List.mem_append_right _ (List.mem_append_right _ (List.mem_append_right _ (List.mem_append_right _ (List.mem_append_right _ (List.mem_append_right _ (List.mem_append_left _ (List.mem_of_getElem? h)))))))))) hg
theorem ev_t9 {w : Cond} (i : Nat) (h : tables_1_9[i]? = some w) (hg : goodWord w = true) : w ∈ ev_T := ev_Tin (List.mem_append_right _ (List.mem_append_right _ (List.mem_append_right _ (List.mem_append_right _ (List.mem_append_right _ (List.mem_append_right _ (List.mem_append_right _ (List.mem_append_right _ (List.mem_append_right _ (List.mem_of_getElem? h)))))))))) hg
def mX0_init : ev_Y := (yX0_init, cX0_init, 1, none)
def mX0_hasWord : ev_Y := (yX0_hasWord, cX0_hasWord, 2, (some .boolean))
def mX0_hasSentence : ev_Y := (yX0_hasSentence, cX0_hasSentence, 2, (some .boolean))
def mX0_tellWord : ev_Y := (yX0_tellWord, cX0_tellWord, 8, (some .int))
def mX0_tellSentence : ev_Y := (yX0_tellSentence, cX0_tellSentence, 5, (some .int))
def mX0_lettersOf : ev_Y := (yX0_lettersOf, cX0_lettersOf, 4, (some .int))
def mX1_init : ev_Y := (yX1_init, cX1_init, 3, none)
def mX1_stiffness : ev_Y := (yX1_stiffness, cX1_stiffness, 6, (some .int))
def mX1_wearOdds : ev_Y := (yX1_wearOdds, cX1_wearOdds, 4, (some .int))
def mX1_noticeOdds : ev_Y := (yX1_noticeOdds, cX1_noticeOdds, 6, (some .int))
def mX1_within : ev_Y := (yX1_within, cX1_within, 2, (some .int))
def mX1_run : ev_Y := (yX1_run, cX1_run, 8, (some .int))
def mX1_push : ev_Y := (yX1_push, cX1_push, 2, none)
def mX1_pop : ev_Y := (yX1_pop, cX1_pop, 1, (some .int))
def mX1_usesOf : ev_Y := (yX1_usesOf, cX1_usesOf, 2, (some .int))
def mX1_join : ev_Y := (yX1_join, cX1_join, 3, (some .long))
def mX1_clipped : ev_Y := (yX1_clipped, cX1_clipped, 2, (some .int))
def mX2_init : ev_Y := (yX2_init, cX2_init, 1, none)
def mX2_start : ev_Y := (yX2_start, cX2_start, 1, none)
def mX2_see : ev_Y := (yX2_see, cX2_see, 3, none)
def mX2_without : ev_Y := (yX2_without, cX2_without, 2, (some .int))
def mX3_init : ev_Y := (yX3_init, cX3_init, 1, none)
def mX3_copyOf : ev_Y := (yX3_copyOf, cX3_copyOf, 3, none)
def mX4_init : ev_Y := (yX4_init, cX4_init, 2, none)
def mX4_read : ev_Y := (yX4_read, cX4_read, 3, (some .boolean))
def mX4_fail : ev_Y := (yX4_fail, cX4_fail, 2, (some .boolean))
def mX4_advance : ev_Y := (yX4_advance, cX4_advance, 1, none)
def mX4_sortOf : ev_Y := (yX4_sortOf, cX4_sortOf, 1, (some .int))
def mX4_number : ev_Y := (yX4_number, cX4_number, 3, (some .int))
def mX4_isToken : ev_Y := (yX4_isToken, cX4_isToken, 3, (some .boolean))
def mX4_rankIn : ev_Y := (yX4_rankIn, cX4_rankIn, 6, (some .int))
def mX4_expectSign : ev_Y := (yX4_expectSign, cX4_expectSign, 2, (some .boolean))
def mX4_expectToken : ev_Y := (yX4_expectToken, cX4_expectToken, 2, (some .boolean))
def mX4_readClause : ev_Y := (yX4_readClause, cX4_readClause, 4, (some .boolean))
def mX4_readDeed : ev_Y := (yX4_readDeed, cX4_readDeed, 2, (some .boolean))
def mX4_readNumber : ev_Y := (yX4_readNumber, cX4_readNumber, 4, (some .boolean))
def mX4_readSenses : ev_Y := (yX4_readSenses, cX4_readSenses, 3, (some .boolean))
def mX4_readLetters : ev_Y := (yX4_readLetters, cX4_readLetters, 2, (some .boolean))
def mX4_readLetter : ev_Y := (yX4_readLetter, cX4_readLetter, 1, (some .boolean))
def mX4_checkLetters : ev_Y := (yX4_checkLetters, cX4_checkLetters, 3, (some .boolean))
def mX4_readSum : ev_Y := (yX4_readSum, cX4_readSum, 4, (some .boolean))
def mX4_readProduct : ev_Y := (yX4_readProduct, cX4_readProduct, 4, (some .boolean))
def mX4_readOne : ev_Y := (yX4_readOne, cX4_readOne, 2, (some .boolean))
def mX4_goDeeper : ev_Y := (yX4_goDeeper, cX4_goDeeper, 2, (some .boolean))
def mX4_putOp : ev_Y := (yX4_putOp, cX4_putOp, 2, (some .boolean))
def mX4_readPlainNumber : ev_Y := (yX4_readPlainNumber, cX4_readPlainNumber, 2, (some .boolean))
def mX4_readName : ev_Y := (yX4_readName, cX4_readName, 2, (some .boolean))
def mX4_readChoice : ev_Y := (yX4_readChoice, cX4_readChoice, 4, (some .boolean))
def mX4_readEither : ev_Y := (yX4_readEither, cX4_readEither, 3, (some .boolean))
def mX4_readBoth : ev_Y := (yX4_readBoth, cX4_readBoth, 3, (some .boolean))
def mX4_readAsk : ev_Y := (yX4_readAsk, cX4_readAsk, 3, (some .boolean))
def mX4_comparison : ev_Y := (yX4_comparison, cX4_comparison, 1, (some .int))
def mX5_init : ev_Y := (yX5_init, cX5_init, 3, none)
def mX5_holesOf : ev_Y := (yX5_holesOf, cX5_holesOf, 5, (some .int))
def mX5_extraOf : ev_Y := (yX5_extraOf, cX5_extraOf, 4, (some .int))
def mX5_looksOf : ev_Y := (yX5_looksOf, cX5_looksOf, 6, (some .int))
def mX5_secondsOf : ev_Y := (yX5_secondsOf, cX5_secondsOf, 3, (some .int))
def mX5_canBe : ev_Y := (yX5_canBe, cX5_canBe, 6, (some .boolean))
def mX5_isMendable : ev_Y := (yX5_isMendable, cX5_isMendable, 4, (some .boolean))
def mX5_keyFor : ev_Y := (yX5_keyFor, cX5_keyFor, 5, (some .int))
def mX6_init : ev_Y := (yX6_init, cX6_init, 4, none)
def mX6_forget : ev_Y := (yX6_forget, cX6_forget, 1, none)
def mX6_suppose : ev_Y := (yX6_suppose, cX6_suppose, 8, none)
def mX6_costOf : ev_Y := (yX6_costOf, cX6_costOf, 5, (some .int))
def mX6_costUpTo : ev_Y := (yX6_costUpTo, cX6_costUpTo, 5, (some .int))
def mX6_fillCosts : ev_Y := (yX6_fillCosts, cX6_fillCosts, 7, none)
def mX6_seeCosts : ev_Y := (yX6_seeCosts, cX6_seeCosts, 3, none)
def mX6_leastBeside : ev_Y := (yX6_leastBeside, cX6_leastBeside, 4, (some .int))
def mX6_costBetween : ev_Y := (yX6_costBetween, cX6_costBetween, 3, (some .int))
def mX6_speak : ev_Y := (yX6_speak, cX6_speak, 6, (some .boolean))
def mX6_lowestBehind : ev_Y := (yX6_lowestBehind, cX6_lowestBehind, 7, (some .int))
def mX6_press : ev_Y := (yX6_press, cX6_press, 6, none)
def mX7_init : ev_Y := (yX7_init, cX7_init, 1, none)
def mX7_put : ev_Y := (yX7_put, cX7_put, 3, none)
def mX7_spells : ev_Y := (yX7_spells, cX7_spells, 3, (some .boolean))
def mX8_init : ev_Y := (yX8_init, cX8_init, 1, none)
def mX8_empty : ev_Y := (yX8_empty, cX8_empty, 1, none)
def mX8_begin : ev_Y := (yX8_begin, cX8_begin, 2, none)
def mX8_put : ev_Y := (yX8_put, cX8_put, 2, none)
def mX8_set : ev_Y := (yX8_set, cX8_set, 3, none)
def mX8_part : ev_Y := (yX8_part, cX8_part, 4, (some .int))
def mX9_init : ev_Y := (yX9_init, cX9_init, 1, none)
def mX9_copyOf : ev_Y := (yX9_copyOf, cX9_copyOf, 2, none)
def mX9_draw : ev_Y := (yX9_draw, cX9_draw, 3, (some .int))
def mX9_note : ev_Y := (yX9_note, cX9_note, 5, none)
def mX9_linesShown : ev_Y := (yX9_linesShown, cX9_linesShown, 1, (some .int))
def mX9_linePart : ev_Y := (yX9_linePart, cX9_linePart, 3, (some .int))
def mX9_markStep : ev_Y := (yX9_markStep, cX9_markStep, 2, none)
def mX9_takeBack : ev_Y := (yX9_takeBack, cX9_takeBack, 2, none)
def mX10_init : ev_Y := (yX10_init, cX10_init, 2, none)
def mX10_feed : ev_Y := (yX10_feed, cX10_feed, 6, (some .int))
def mX10_end : ev_Y := (yX10_end, cX10_end, 2, (some .int))
def mX10_text : ev_Y := (yX10_text, cX10_text, 3, (some .int))
def mX10_fault : ev_Y := (yX10_fault, cX10_fault, 2, (some .int))
def mX10_by : ev_Y := (yX10_by, cX10_by, 2, (some .boolean))
def mX10_played : ev_Y := (yX10_played, cX10_played, 4, (some .int))
def mX10_hasText : ev_Y := (yX10_hasText, cX10_hasText, 2, (some .boolean))
def mX10_playClause : ev_Y := (yX10_playClause, cX10_playClause, 4, (some .boolean))
def mX10_word : ev_Y := (yX10_word, cX10_word, 5, (some .int))
def mX10_turn : ev_Y := (yX10_turn, cX10_turn, 4, (some .int))
def mX10_sense : ev_Y := (yX10_sense, cX10_sense, 8, (some .int))
def mX10_made : ev_Y := (yX10_made, cX10_made, 4, (some .boolean))
def mX10_key : ev_Y := (yX10_key, cX10_key, 2, (some .boolean))
def mX10_write : ev_Y := (yX10_write, cX10_write, 2, (some .int))
def mX10_week : ev_Y := (yX10_week, cX10_week, 2, (some .int))
def mX10_undo : ev_Y := (yX10_undo, cX10_undo, 1, (some .int))
def mX10_refuse : ev_Y := (yX10_refuse, cX10_refuse, 2, (some .int))
def mX10_addWord : ev_Y := (yX10_addWord, cX10_addWord, 7, (some .int))
def mX10_addSentence : ev_Y := (yX10_addSentence, cX10_addSentence, 4, (some .int))
def mX10_typeSpoken : ev_Y := (yX10_typeSpoken, cX10_typeSpoken, 2, none)
def mX10_passDays : ev_Y := (yX10_passDays, cX10_passDays, 4, (some .boolean))
def mX10_wearSomeKey : ev_Y := (yX10_wearSomeKey, cX10_wearSomeKey, 2, none)
def mX10_told : ev_Y := (yX10_told, cX10_told, 3, (some .int))
def mX10_stiff : ev_Y := (yX10_stiff, cX10_stiff, 2, (some .int))
def mX10_least : ev_Y := (yX10_least, cX10_least, 3, (some .int))
def mX10_sentence : ev_Y := (yX10_sentence, cX10_sentence, 3, (some .int))
def mX10_states : ev_Y := (yX10_states, cX10_states, 5, (some .int))
def mX10_none : ev_Y := (yX10_none, cX10_none, 3, (some .int))
def mX10_stiffnessBy : ev_Y := (yX10_stiffnessBy, cX10_stiffnessBy, 3, (some .int))
def mX10_ruling : ev_Y := (yX10_ruling, cX10_ruling, 1, (some (.object "WithoutE$Text")))
def mX10_hearNow : ev_Y := (yX10_hearNow, cX10_hearNow, 1, none)
def mX10_speakNow : ev_Y := (yX10_speakNow, cX10_speakNow, 2, (some .boolean))
def mX10_worst : ev_Y := (yX10_worst, cX10_worst, 5, (some .int))
def mX10_few : ev_Y := (yX10_few, cX10_few, 9, (some .int))
def mX10_totalWith : ev_Y := (yX10_totalWith, cX10_totalWith, 5, (some .int))
def mX10_spare : ev_Y := (yX10_spare, cX10_spare, 2, (some .int))
def mX10_now : ev_Y := (yX10_now, cX10_now, 2, (some .int))
def mX10_exact : ev_Y := (yX10_exact, cX10_exact, 2, (some .int))
def mX10_countPresses : ev_Y := (yX10_countPresses, cX10_countPresses, 2, none)
def mX10_keyOfRank : ev_Y := (yX10_keyOfRank, cX10_keyOfRank, 3, (some .int))
def mX10_keysAheadOf : ev_Y := (yX10_keysAheadOf, cX10_keysAheadOf, 5, (some .int))
def mX10_longer : ev_Y := (yX10_longer, cX10_longer, 5, (some .int))
def mX10_law : ev_Y := (yX10_law, cX10_law, 3, (some .int))
def mX10_agreesWithHeard : ev_Y := (yX10_agreesWithHeard, cX10_agreesWithHeard, 3, (some .boolean))
def mX10_stiffs : ev_Y := (yX10_stiffs, cX10_stiffs, 3, (some .int))
def mX10_notices : ev_Y := (yX10_notices, cX10_notices, 11, (some .long))
def mX10_lines : ev_Y := (yX10_lines, cX10_lines, 7, (some .int))
def mX10_held : ev_Y := (yX10_held, cX10_held, 5, (some .int))
def mX10_noticeOdds : ev_Y := (yX10_noticeOdds, cX10_noticeOdds, 2, (some .int))
def mX10_waysUnnoticed : ev_Y := (yX10_waysUnnoticed, cX10_waysUnnoticed, 6, (some .long))
def mX10_waysInAll : ev_Y := (yX10_waysInAll, cX10_waysInAll, 4, (some .long))
def mX10_sharedDivisor : ev_Y := (yX10_sharedDivisor, cX10_sharedDivisor, 11, (some .long))
def mX10_page : ev_Y := (yX10_page, cX10_page, 2, (some .int))
def mX10_wrote : ev_Y := (yX10_wrote, cX10_wrote, 4, (some .int))
def mX10_fewest : ev_Y := (yX10_fewest, cX10_fewest, 6, (some .int))
def mX10_keysOfPage : ev_Y := (yX10_keysOfPage, cX10_keysOfPage, 4, (some .int))
def mX10_letters : ev_Y := (yX10_letters, cX10_letters, 5, (some .int))
def mX10_lot : ev_Y := (yX10_lot, cX10_lot, 7, (some .int))
def mX10_bitOfRank : ev_Y := (yX10_bitOfRank, cX10_bitOfRank, 4, (some .int))
def mX10_wire : ev_Y := (yX10_wire, cX10_wire, 2, (some .int))
def mX10_worth : ev_Y := (yX10_worth, cX10_worth, 2, (some .int))
def mX10_line : ev_Y := (yX10_line, cX10_line, 10, (some .int))
def mX10_priceSentences : ev_Y := (yX10_priceSentences, cX10_priceSentences, 3, none)
def mX10_sumOver : ev_Y := (yX10_sumOver, cX10_sumOver, 4, (some .int))
def mX10_all : ev_Y := (yX10_all, cX10_all, 1, (some .int))
def mX10_senses : ev_Y := (yX10_senses, cX10_senses, 3, (some .int))
def mX10_report : ev_Y := (yX10_report, cX10_report, 3, (some .int))
def mX10_clear : ev_Y := (yX10_clear, cX10_clear, 1, (some .int))
def mX10_meant : ev_Y := (yX10_meant, cX10_meant, 4, (some .int))
def mX10_fits : ev_Y := (yX10_fits, cX10_fits, 3, (some .int))
def mX10_fitsReport : ev_Y := (yX10_fitsReport, cX10_fitsReport, 6, (some .boolean))
def mX10_isAlike : ev_Y := (yX10_isAlike, cX10_isAlike, 4, (some .boolean))
def mX10_is : ev_Y := (yX10_is, cX10_is, 2, (some .int))
def mX10_use : ev_Y := (yX10_use, cX10_use, 2, (some .int))
def mX10_book : ev_Y := (yX10_book, cX10_book, 4, (some .int))
def mX10_image : ev_Y := (yX10_image, cX10_image, 1, (some .int))
def mX10_restore : ev_Y := (yX10_restore, cX10_restore, 1, (some .int))
def mX10_status : ev_Y := (yX10_status, cX10_status, 2, (some .int))
def mX10_about : ev_Y := (yX10_about, cX10_about, 2, (some .int))
def mX10_isLetter : ev_Y := (yX10_isLetter, cX10_isLetter, 1, (some .boolean))
def mX10_isSense : ev_Y := (yX10_isSense, cX10_isSense, 1, (some .boolean))
def mX10_has : ev_Y := (yX10_has, cX10_has, 2, (some .boolean))
def mX10_isSmall : ev_Y := (yX10_isSmall, cX10_isSmall, 1, (some .boolean))
def mX11_init : ev_Y := (yX11_init, cX11_init, 2, none)
def mX11_copy : ev_Y := (yX11_copy, cX11_copy, 3, none)
def mX11_isIn : ev_Y := (yX11_isIn, cX11_isIn, 3, (some .boolean))
def mX11_bound : ev_Y := (yX11_bound, cX11_bound, 4, (some .int))
def mX11_has : ev_Y := (yX11_has, cX11_has, 2, (some .boolean))
def mX11_bits : ev_Y := (yX11_bits, cX11_bits, 3, (some .int))
def mX11_isWordOf : ev_Y := (yX11_isWordOf, cX11_isWordOf, 2, (some .boolean))
def mX11_isSentence : ev_Y := (yX11_isSentence, cX11_isSentence, 2, (some .boolean))
def mX11_isLetter : ev_Y := (yX11_isLetter, cX11_isLetter, 1, (some .boolean))
def mX11_get : ev_Y := (yX11_get, cX11_get, 3, (some .int))
def mX11_isLost : ev_Y := (yX11_isLost, cX11_isLost, 2, (some .boolean))
def mX11_isMadeOfLeft : ev_Y := (yX11_isMadeOfLeft, cX11_isMadeOfLeft, 2, (some .boolean))
def mX11_refused : ev_Y := (yX11_refused, cX11_refused, 2, (some .int))
def mX11_holesOf : ev_Y := (yX11_holesOf, cX11_holesOf, 4, (some .int))
def mX11_canBe : ev_Y := (yX11_canBe, cX11_canBe, 4, (some .boolean))
def mX11_extraOf : ev_Y := (yX11_extraOf, cX11_extraOf, 4, (some .int))
def mX11_secondsOf : ev_Y := (yX11_secondsOf, cX11_secondsOf, 2, (some .int))
def mX11_four : ev_Y := (yX11_four, cX11_four, 3, none)
def mX11_feed : ev_Y := (yX11_feed, cX11_feed, 6, (some .int))
def mX11_end : ev_Y := (yX11_end, cX11_end, 2, (some .int))
def mX11_byteAt : ev_Y := (yX11_byteAt, cX11_byteAt, 2, (some .int))
def mX11_isLetterByte : ev_Y := (yX11_isLetterByte, cX11_isLetterByte, 1, (some .boolean))
def mX11_isFigure : ev_Y := (yX11_isFigure, cX11_isFigure, 1, (some .boolean))
def mX11_isSign : ev_Y := (yX11_isSign, cX11_isSign, 1, (some .boolean))
def mX11_nextToken : ev_Y := (yX11_nextToken, cX11_nextToken, 2, none)
def mX11_w2 : ev_Y := (yX11_w2, cX11_w2, 2, (some .long))
def mX11_w3 : ev_Y := (yX11_w3, cX11_w3, 3, (some .long))
def mX11_w4 : ev_Y := (yX11_w4, cX11_w4, 4, (some .long))
def mX11_w5 : ev_Y := (yX11_w5, cX11_w5, 5, (some .long))
def mX11_w6 : ev_Y := (yX11_w6, cX11_w6, 6, (some .long))
def mX11_isWord : ev_Y := (yX11_isWord, cX11_isWord, 3, (some .boolean))
def mX11_emit : ev_Y := (yX11_emit, cX11_emit, 3, none)
def mX11_isLong : ev_Y := (yX11_isLong, cX11_isLong, 5, (some .boolean))
def mX11_nameOf : ev_Y := (yX11_nameOf, cX11_nameOf, 1, (some .int))
def mX11_isOf : ev_Y := (yX11_isOf, cX11_isOf, 2, (some .boolean))
def mX11_rank : ev_Y := (yX11_rank, cX11_rank, 1, (some .int))
def mX11_settle : ev_Y := (yX11_settle, cX11_settle, 2, none)
def mX11_openAt : ev_Y := (yX11_openAt, cX11_openAt, 2, (some .int))
def mX11_openNow : ev_Y := (yX11_openNow, cX11_openNow, 1, (some .int))
def mX11_isCompared : ev_Y := (yX11_isCompared, cX11_isCompared, 2, (some .boolean))
def mX11_isAskAhead : ev_Y := (yX11_isAskAhead, cX11_isAskAhead, 1, (some .boolean))
def mX11_opened : ev_Y := (yX11_opened, cX11_opened, 2, (some .int))
def mX11_beginOne : ev_Y := (yX11_beginOne, cX11_beginOne, 2, (some .int))
def mX11_compareOf : ev_Y := (yX11_compareOf, cX11_compareOf, 1, (some .int))
def mX11_betweenOf : ev_Y := (yX11_betweenOf, cX11_betweenOf, 1, (some .int))
def mX11_partOf : ev_Y := (yX11_partOf, cX11_partOf, 2, (some .int))
def mX11_behindOne : ev_Y := (yX11_behindOne, cX11_behindOne, 4, (some .boolean))
def mX11_summed : ev_Y := (yX11_summed, cX11_summed, 2, (some .int))
def mX11_figure : ev_Y := (yX11_figure, cX11_figure, 4, (some .int))
def mX11_worded : ev_Y := (yX11_worded, cX11_worded, 6, (some .int))
def mX11_lawClause : ev_Y := (yX11_lawClause, cX11_lawClause, 3, (some .int))
def mX11_spelled : ev_Y := (yX11_spelled, cX11_spelled, 5, (some .int))
def mX11_wordClause : ev_Y := (yX11_wordClause, cX11_wordClause, 3, (some .int))
def mX11_sayClause : ev_Y := (yX11_sayClause, cX11_sayClause, 4, (some .int))
def mX11_makeClause : ev_Y := (yX11_makeClause, cX11_makeClause, 3, (some .int))
def mX11_body : ev_Y := (yX11_body, cX11_body, 3, (some .int))
def mX11_sortOf : ev_Y := (yX11_sortOf, cX11_sortOf, 1, (some .int))
def mX11_clause : ev_Y := (yX11_clause, cX11_clause, 5, (some .int))
def mX11_readText : ev_Y := (yX11_readText, cX11_readText, 2, (some .int))
def mX11_text : ev_Y := (yX11_text, cX11_text, 1, (some .int))
def mX11_fault : ev_Y := (yX11_fault, cX11_fault, 2, (some .int))
def mX11_by : ev_Y := (yX11_by, cX11_by, 2, (some .boolean))
def mX11_clip : ev_Y := (yX11_clip, cX11_clip, 2, (some .long))
def mX11_two : ev_Y := (yX11_two, cX11_two, 5, (some .long))
def mX11_isAsked : ev_Y := (yX11_isAsked, cX11_isAsked, 5, (some .boolean))
def mX11_usesOf : ev_Y := (yX11_usesOf, cX11_usesOf, 3, (some .long))
def mX11_joined : ev_Y := (yX11_joined, cX11_joined, 3, (some .boolean))
def mX11_summedUp : ev_Y := (yX11_summedUp, cX11_summedUp, 10, (some .long))
def mX11_says : ev_Y := (yX11_says, cX11_says, 6, (some .int))
def mX11_name : ev_Y := (yX11_name, cX11_name, 1, none)
def mX11_stiffOf : ev_Y := (yX11_stiffOf, cX11_stiffOf, 3, (some .int))
def mX11_wearsOf : ev_Y := (yX11_wearsOf, cX11_wearsOf, 2, (some .int))
def mX11_noticesOf : ev_Y := (yX11_noticesOf, cX11_noticesOf, 4, (some .int))
def mX11_lay : ev_Y := (yX11_lay, cX11_lay, 5, (some .int))
def mX11_isSpelled : ev_Y := (yX11_isSpelled, cX11_isSpelled, 2, (some .boolean))
def mX11_isWordTold : ev_Y := (yX11_isWordTold, cX11_isWordTold, 3, (some .boolean))
def mX11_word : ev_Y := (yX11_word, cX11_word, 6, (some .int))
def mX11_wordOf : ev_Y := (yX11_wordOf, cX11_wordOf, 4, (some .int))
def mX11_turn : ev_Y := (yX11_turn, cX11_turn, 4, (some .int))
def mX11_sentenceOf : ev_Y := (yX11_sentenceOf, cX11_sentenceOf, 4, (some .int))
def mX11_sense : ev_Y := (yX11_sense, cX11_sense, 7, (some .int))
def mX11_made : ev_Y := (yX11_made, cX11_made, 4, (some .boolean))
def mX11_layStiffs : ev_Y := (yX11_layStiffs, cX11_layStiffs, 2, none)
def mX11_lengthOf : ev_Y := (yX11_lengthOf, cX11_lengthOf, 2, (some .int))
def mX11_isAt : ev_Y := (yX11_isAt, cX11_isAt, 4, (some .boolean))
def mX11_behind : ev_Y := (yX11_behind, cX11_behind, 3, (some .int))
def mX11_nextOf : ev_Y := (yX11_nextOf, cX11_nextOf, 8, (some .int))
def mX11_layRests : ev_Y := (yX11_layRests, cX11_layRests, 6, none)
def mX11_leastOf : ev_Y := (yX11_leastOf, cX11_leastOf, 5, (some .int))
def mX11_saidOf : ev_Y := (yX11_saidOf, cX11_saidOf, 2, (some .int))
def mX11_secondsIn : ev_Y := (yX11_secondsIn, cX11_secondsIn, 4, (some .int))
def mX11_lettersIn : ev_Y := (yX11_lettersIn, cX11_lettersIn, 4, (some .int))
def mX11_keyFor : ev_Y := (yX11_keyFor, cX11_keyFor, 3, (some .int))
def mX11_note : ev_Y := (yX11_note, cX11_note, 5, none)
def mX11_writeNow : ev_Y := (yX11_writeNow, cX11_writeNow, 6, none)
def mX11_anew : ev_Y := (yX11_anew, cX11_anew, 1, none)
def mX11_goes : ev_Y := (yX11_goes, cX11_goes, 2, none)
def mX11_pass : ev_Y := (yX11_pass, cX11_pass, 4, none)
def mX11_keep : ev_Y := (yX11_keep, cX11_keep, 3, none)
def mX11_undo : ev_Y := (yX11_undo, cX11_undo, 3, (some .int))
def mX11_key : ev_Y := (yX11_key, cX11_key, 2, (some .boolean))
def mX11_write : ev_Y := (yX11_write, cX11_write, 3, (some .int))
def mX11_arePassed : ev_Y := (yX11_arePassed, cX11_arePassed, 3, (some .boolean))
def mX11_week : ev_Y := (yX11_week, cX11_week, 2, (some .int))
def mX11_weekOf : ev_Y := (yX11_weekOf, cX11_weekOf, 2, (some .int))
def mX11_isSaid : ev_Y := (yX11_isSaid, cX11_isSaid, 3, (some .boolean))
def mX11_isPlayed : ev_Y := (yX11_isPlayed, cX11_isPlayed, 3, (some .boolean))
def mX11_played : ev_Y := (yX11_played, cX11_played, 3, (some .int))
def mX11_told : ev_Y := (yX11_told, cX11_told, 3, (some .int))
def mX11_stiff : ev_Y := (yX11_stiff, cX11_stiff, 2, (some .int))
def mX11_is : ev_Y := (yX11_is, cX11_is, 2, (some .int))
def mX11_use : ev_Y := (yX11_use, cX11_use, 2, (some .int))
def mX11_book : ev_Y := (yX11_book, cX11_book, 4, (some .int))
def mX11_status : ev_Y := (yX11_status, cX11_status, 2, (some .int))
def mX11_least : ev_Y := (yX11_least, cX11_least, 4, (some .int))
def mX11_sentence : ev_Y := (yX11_sentence, cX11_sentence, 3, (some .int))
def mX11_layUpTo : ev_Y := (yX11_layUpTo, cX11_layUpTo, 6, none)
def mX11_states : ev_Y := (yX11_states, cX11_states, 5, (some .int))
def mX11_none : ev_Y := (yX11_none, cX11_none, 3, (some .int))
def mX11_totalWith : ev_Y := (yX11_totalWith, cX11_totalWith, 6, (some .int))
def mX11_worst : ev_Y := (yX11_worst, cX11_worst, 5, (some .int))
def mX11_few : ev_Y := (yX11_few, cX11_few, 8, (some .int))
def mX11_layNows : ev_Y := (yX11_layNows, cX11_layNows, 5, none)
def mX11_now : ev_Y := (yX11_now, cX11_now, 2, (some .int))
def mX11_spare : ev_Y := (yX11_spare, cX11_spare, 4, (some .int))
def mX11_exact : ev_Y := (yX11_exact, cX11_exact, 5, (some .int))
def mX11_longer : ev_Y := (yX11_longer, cX11_longer, 5, (some .int))
def mX11_layLines : ev_Y := (yX11_layLines, cX11_layLines, 3, none)
def mX11_common : ev_Y := (yX11_common, cX11_common, 10, (some .long))
def mX11_unseen : ev_Y := (yX11_unseen, cX11_unseen, 5, (some .long))
def mX11_tens : ev_Y := (yX11_tens, cX11_tens, 4, (some .long))
def mX11_notices : ev_Y := (yX11_notices, cX11_notices, 7, (some .long))
def mX11_lines : ev_Y := (yX11_lines, cX11_lines, 3, (some .int))
def mX11_held : ev_Y := (yX11_held, cX11_held, 6, (some .int))
def mX11_page : ev_Y := (yX11_page, cX11_page, 2, (some .int))
def mX11_lettersOf : ev_Y := (yX11_lettersOf, cX11_lettersOf, 4, (some .int))
def mX11_mayBeLost : ev_Y := (yX11_mayBeLost, cX11_mayBeLost, 3, (some .int))
def mX11_wrote : ev_Y := (yX11_wrote, cX11_wrote, 4, (some .int))
def mX11_fewest : ev_Y := (yX11_fewest, cX11_fewest, 5, (some .int))
def mX11_letters : ev_Y := (yX11_letters, cX11_letters, 4, (some .int))
def mX11_lot : ev_Y := (yX11_lot, cX11_lot, 6, (some .int))
def mX11_penceOf : ev_Y := (yX11_penceOf, cX11_penceOf, 4, (some .int))
def mX11_wire : ev_Y := (yX11_wire, cX11_wire, 2, (some .int))
def mX11_worth : ev_Y := (yX11_worth, cX11_worth, 2, (some .int))
def mX11_sumOf : ev_Y := (yX11_sumOf, cX11_sumOf, 4, (some .int))
def mX11_line : ev_Y := (yX11_line, cX11_line, 7, (some .int))
def mX11_senses : ev_Y := (yX11_senses, cX11_senses, 3, (some .int))
def mX11_all : ev_Y := (yX11_all, cX11_all, 1, (some .int))
def mX11_report : ev_Y := (yX11_report, cX11_report, 4, (some .int))
def mX11_clear : ev_Y := (yX11_clear, cX11_clear, 1, (some .int))
def mX11_isMeant : ev_Y := (yX11_isMeant, cX11_isMeant, 5, (some .boolean))
def mX11_meant : ev_Y := (yX11_meant, cX11_meant, 4, (some .int))
def mX11_isFitting : ev_Y := (yX11_isFitting, cX11_isFitting, 5, (some .boolean))
def mX11_fits : ev_Y := (yX11_fits, cX11_fits, 3, (some .int))
def mX11_stiffs : ev_Y := (yX11_stiffs, cX11_stiffs, 3, (some .int))
def mX11_law : ev_Y := (yX11_law, cX11_law, 5, (some .int))
def mX11_image : ev_Y := (yX11_image, cX11_image, 1, (some .int))
def mX11_restore : ev_Y := (yX11_restore, cX11_restore, 1, (some .int))
def mX11_about : ev_Y := (yX11_about, cX11_about, 2, (some .int))
def mJ6_bitCount_0f7a4 : ev_Y := (yJ6_bitCount_0f7a4, cJ6_bitCount_0f7a4, 1, (some .int))
def mJ9_max_f86c9 : ev_Y := (yJ9_max_f86c9, cJ9_max_f86c9, 4, (some .long))
def mJ9_min_7cf53 : ev_Y := (yJ9_min_7cf53, cJ9_min_7cf53, 2, (some .int))
def mJ0_length_8abf5 : ev_Y := (yJ0_length_8abf5, cJ0_length_8abf5, 1, (some .int))
def mJ0_charAt_5068e : ev_Y := (yJ0_charAt_5068e, cJ0_charAt_5068e, 2, (some .char))
def mJ0_coder_7d493 : ev_Y := (yJ0_coder_7d493, cJ0_coder_7d493, 1, (some .byte))
def mJ0_isLatin1_aae02 : ev_Y := (yJ0_isLatin1_aae02, cJ0_isLatin1_aae02, 1, (some .boolean))
def mJ0_checkIndex_df160 : ev_Y := (yJ0_checkIndex_df160, cJ0_checkIndex_df160, 2, none)
def mJ1_charAt_3b067 : ev_Y := (yJ1_charAt_3b067, cJ1_charAt_3b067, 2, (some .char))
def mJ2_getChar_3b067 : ev_Y := (yJ2_getChar_3b067, cJ2_getChar_3b067, 2, (some .char))
def mJ2_length_9d52b : ev_Y := (yJ2_length_9d52b, cJ2_length_9d52b, 1, (some .int))
def mJ2_charAt_3b067 : ev_Y := (yJ2_charAt_3b067, cJ2_charAt_3b067, 2, (some .char))
def mJ2_checkIndex_2214a : ev_Y := (yJ2_checkIndex_2214a, cJ2_checkIndex_2214a, 2, none)
def mJ7_fill_53178 : ev_Y := (yJ7_fill_53178, cJ7_fill_53178, 4, none)
def mJ3_checkIndex_8e157 : ev_Y := (yJ3_checkIndex_8e157, cJ3_checkIndex_8e157, 3, (some .int))
def LX : List ev_C := [.inr (10, [(2, 1), (2, 3), (2, 43), (2, 47), (2, 60), (2, 81), (2, 82), (2, 83), (2, 86), (2, 100), (2, 104), (2, 117), (2, 118), (2, 119), (2, 120), (2, 121), (0, 0), (0, 0)]), .inr (7, [(2, 2), (0, 0)]), .inl (0, 300, 0, ev_k0), .inr (0, [(2, 4), (2, 29), (2, 30), (2, 31), (2, 32), (0, 0), (2, 33), (2, 42), (0, 0)]), .inl (3, 24, 2, (fun j => 5 + j)), .inl (0, 9, 0, ev_k0), .inl (0, 9, 0, ev_k0), .inl (0, 9, 0, ev_k0), .inl (0, 9, 0, ev_k0), .inl (0, 9, 0, ev_k0), .inl (0, 9, 0, ev_k0), .inl (0, 9, 0, ev_k0), .inl (0, 9, 0, ev_k0), .inl (0, 9, 0, ev_k0), .inl (0, 9, 0, ev_k0), .inl (0, 9, 0, ev_k0), .inl (0, 9, 0, ev_k0), .inl (0, 9, 0, ev_k0), .inl (0, 9, 0, ev_k0), .inl (0, 9, 0, ev_k0), .inl (0, 9, 0, ev_k0), .inl (0, 9, 0, ev_k0), .inl (0, 9, 0, ev_k0), .inl (0, 9, 0, ev_k0), .inl (0, 9, 0, ev_k0), .inl (0, 9, 0, ev_k0), .inl (0, 9, 0, ev_k0), .inl (0, 9, 0, ev_k0), .inl (0, 9, 0, ev_k0), .inl (0, 24, 0, ev_k0), .inl (0, 24, 0, ev_k0), .inl (0, 24, 0, ev_k0), .inl (0, 24, 0, ev_k0), .inl (3, 8, 2, (fun j => 34 + j)), .inl (0, 5, 0, ev_k0), .inl (0, 5, 0, ev_k0), .inl (0, 5, 0, ev_k0), .inl (0, 5, 0, ev_k0), .inl (0, 5, 0, ev_k0), .inl (0, 5, 0, ev_k0), .inl (0, 5, 0, ev_k0), .inl (0, 5, 0, ev_k0), .inl (0, 8, 0, ev_k0), .inr (9, [(0, 0), (2, 44), (0, 0), (0, 0), (0, 0), (2, 45), (0, 0), (2, 46), (0, 0), (0, 0)]), .inl (0, 26, 0, ev_k0), .inl (0, 360, 0, ev_k0), .inl (0, 930, 0, ev_k0), .inr (3, [(2, 48), (2, 49), (0, 0), (0, 0), (2, 50), (0, 0), (2, 51), (2, 57), (0, 0), (2, 58), (2, 59), (0, 0)]), .inl (0, 26, 0, ev_k0), .inl (0, 26, 0, ev_k0), .inl (0, 8, 0, ev_k0), .inl (3, 5, 2, (fun j => 52 + j)), .inl (0, 9, 0, ev_k0), .inl (0, 9, 0, ev_k0), .inl (0, 9, 0, ev_k0), .inl (0, 9, 0, ev_k0), .inl (0, 9, 0, ev_k0), .inl (0, 5, 0, ev_k0), .inl (0, 8, 0, ev_k0), .inl (0, 8, 0, ev_k0), .inl (4, 4, 2, (fun j => 61 + 5 * j)), .inr (8, [(2, 62), (0, 0), (2, 63), (2, 64), (0, 0), (2, 65)]), .inl (0, 300, 0, ev_k0), .inl (0, 24, 0, ev_k0), .inl (0, 24, 0, ev_k0), .inl (0, 3, 0, ev_k0), .inr (8, [(2, 67), (0, 0), (2, 68), (2, 69), (0, 0), (2, 70)]), .inl (0, 300, 0, ev_k0), .inl (0, 24, 0, ev_k0), .inl (0, 24, 0, ev_k0), .inl (0, 3, 0, ev_k0), .inr (8, [(2, 72), (0, 0), (2, 73), (2, 74), (0, 0), (2, 75)]), .inl (0, 300, 0, ev_k0), .inl (0, 24, 0, ev_k0), .inl (0, 24, 0, ev_k0), .inl (0, 3, 0, ev_k0), .inr (8, [(2, 77), (0, 0), (2, 78), (2, 79), (0, 0), (2, 80)]), .inl (0, 300, 0, ev_k0), .inl (0, 24, 0, ev_k0), .inl (0, 24, 0, ev_k0), .inl (0, 3, 0, ev_k0), .inr (4, [(2, 1), (3, 0), (0, 0), (0, 0), (0, 0), (0, 0), (0, 0), (0, 0), (0, 0)]), .inr (5, [(2, 3), (2, 47)]), .inr (1, [(2, 3), (2, 43), (2, 84), (2, 85), (0, 0)]), .inl (0, 12, 0, ev_k0), .inl (0, 64, 0, ev_k0), .inr (6, [(2, 3), (2, 82), (2, 83), (0, 0), (2, 87), (2, 88), (2, 89), (2, 90), (0, 0), (2, 91), (2, 97), (2, 98), (2, 99), (0, 0), (0, 0), (0, 0), (0, 0), (0, 0)]), .inl (1, 24, 0, ev_k0), .inl (0, 24, 0, ev_k0), .inl (0, 240, 0, ev_k0), .inl (0, 240, 0, ev_k0), .inl (3, 5, 2, (fun j => 92 + j)), .inl (0, 24, 0, ev_k0), .inl (0, 24, 0, ev_k0), .inl (0, 24, 0, ev_k0), .inl (0, 24, 0, ev_k0), .inl (0, 24, 0, ev_k0), .inr (2, [(0, 0), (0, 0), (0, 0)]), .inr (2, [(0, 0), (0, 0), (0, 0)]), .inl (0, 5, 0, ev_k0), .inr (9, [(0, 0), (2, 101), (0, 0), (0, 0), (0, 0), (2, 102), (0, 0), (2, 103), (0, 0), (0, 0)]), .inl (0, 26, 0, ev_k0), .inl (0, 360, 0, ev_k0), .inl (0, 930, 0, ev_k0), .inr (3, [(2, 105), (2, 106), (0, 0), (0, 0), (2, 107), (0, 0), (2, 108), (2, 114), (0, 0), (2, 115), (2, 116), (0, 0)]), .inl (0, 26, 0, ev_k0), .inl (0, 26, 0, ev_k0), .inl (0, 8, 0, ev_k0), .inl (3, 5, 2, (fun j => 109 + j)), .inl (0, 9, 0, ev_k0), .inl (0, 9, 0, ev_k0), .inl (0, 9, 0, ev_k0), .inl (0, 9, 0, ev_k0), .inl (0, 9, 0, ev_k0), .inl (0, 5, 0, ev_k0), .inl (0, 8, 0, ev_k0), .inl (0, 8, 0, ev_k0), .inl (0, 3, 0, ev_k0), .inl (0, 9, 0, ev_k0), .inl (0, 26, 0, ev_k0), .inl (0, 8, 0, ev_k0), .inl (0, 8, 0, ev_k0)]
theorem lx_0 : LX[0]? = some (.inr (10, [(2, 1), (2, 3), (2, 43), (2, 47), (2, 60), (2, 81), (2, 82), (2, 83), (2, 86), (2, 100), (2, 104), (2, 117), (2, 118), (2, 119), (2, 120), (2, 121), (0, 0), (0, 0)])) := rfl
theorem lx_1 : LX[1]? = some (.inr (7, [(2, 2), (0, 0)])) := rfl
theorem lx_2 : LX[2]? = some (.inl (0, 300, 0, ev_k0)) := rfl
theorem lx_3 : LX[3]? = some (.inr (0, [(2, 4), (2, 29), (2, 30), (2, 31), (2, 32), (0, 0), (2, 33), (2, 42), (0, 0)])) := rfl
theorem lx_4 : LX[4]? = some (.inl (3, 24, 2, (fun j => 5 + j))) := rfl
theorem lx_5 : LX[5]? = some (.inl (0, 9, 0, ev_k0)) := rfl
theorem lx_6 : LX[6]? = some (.inl (0, 9, 0, ev_k0)) := rfl
theorem lx_7 : LX[7]? = some (.inl (0, 9, 0, ev_k0)) := rfl
theorem lx_8 : LX[8]? = some (.inl (0, 9, 0, ev_k0)) := rfl
theorem lx_9 : LX[9]? = some (.inl (0, 9, 0, ev_k0)) := rfl
theorem lx_10 : LX[10]? = some (.inl (0, 9, 0, ev_k0)) := rfl
theorem lx_11 : LX[11]? = some (.inl (0, 9, 0, ev_k0)) := rfl
theorem lx_12 : LX[12]? = some (.inl (0, 9, 0, ev_k0)) := rfl
theorem lx_13 : LX[13]? = some (.inl (0, 9, 0, ev_k0)) := rfl
theorem lx_14 : LX[14]? = some (.inl (0, 9, 0, ev_k0)) := rfl
theorem lx_15 : LX[15]? = some (.inl (0, 9, 0, ev_k0)) := rfl
theorem lx_16 : LX[16]? = some (.inl (0, 9, 0, ev_k0)) := rfl
theorem lx_17 : LX[17]? = some (.inl (0, 9, 0, ev_k0)) := rfl
theorem lx_18 : LX[18]? = some (.inl (0, 9, 0, ev_k0)) := rfl
theorem lx_19 : LX[19]? = some (.inl (0, 9, 0, ev_k0)) := rfl
theorem lx_20 : LX[20]? = some (.inl (0, 9, 0, ev_k0)) := rfl
theorem lx_21 : LX[21]? = some (.inl (0, 9, 0, ev_k0)) := rfl
theorem lx_22 : LX[22]? = some (.inl (0, 9, 0, ev_k0)) := rfl
theorem lx_23 : LX[23]? = some (.inl (0, 9, 0, ev_k0)) := rfl
theorem lx_24 : LX[24]? = some (.inl (0, 9, 0, ev_k0)) := rfl
theorem lx_25 : LX[25]? = some (.inl (0, 9, 0, ev_k0)) := rfl
theorem lx_26 : LX[26]? = some (.inl (0, 9, 0, ev_k0)) := rfl
theorem lx_27 : LX[27]? = some (.inl (0, 9, 0, ev_k0)) := rfl
theorem lx_28 : LX[28]? = some (.inl (0, 9, 0, ev_k0)) := rfl
theorem lx_29 : LX[29]? = some (.inl (0, 24, 0, ev_k0)) := rfl
theorem lx_30 : LX[30]? = some (.inl (0, 24, 0, ev_k0)) := rfl
theorem lx_31 : LX[31]? = some (.inl (0, 24, 0, ev_k0)) := rfl
theorem lx_32 : LX[32]? = some (.inl (0, 24, 0, ev_k0)) := rfl
theorem lx_33 : LX[33]? = some (.inl (3, 8, 2, (fun j => 34 + j))) := rfl
theorem lx_34 : LX[34]? = some (.inl (0, 5, 0, ev_k0)) := rfl
theorem lx_35 : LX[35]? = some (.inl (0, 5, 0, ev_k0)) := rfl
theorem lx_36 : LX[36]? = some (.inl (0, 5, 0, ev_k0)) := rfl
theorem lx_37 : LX[37]? = some (.inl (0, 5, 0, ev_k0)) := rfl
theorem lx_38 : LX[38]? = some (.inl (0, 5, 0, ev_k0)) := rfl
theorem lx_39 : LX[39]? = some (.inl (0, 5, 0, ev_k0)) := rfl
theorem lx_40 : LX[40]? = some (.inl (0, 5, 0, ev_k0)) := rfl
theorem lx_41 : LX[41]? = some (.inl (0, 5, 0, ev_k0)) := rfl
theorem lx_42 : LX[42]? = some (.inl (0, 8, 0, ev_k0)) := rfl
theorem lx_43 : LX[43]? = some (.inr (9, [(0, 0), (2, 44), (0, 0), (0, 0), (0, 0), (2, 45), (0, 0), (2, 46), (0, 0), (0, 0)])) := rfl
theorem lx_44 : LX[44]? = some (.inl (0, 26, 0, ev_k0)) := rfl
theorem lx_45 : LX[45]? = some (.inl (0, 360, 0, ev_k0)) := rfl
theorem lx_46 : LX[46]? = some (.inl (0, 930, 0, ev_k0)) := rfl
theorem lx_47 : LX[47]? = some (.inr (3, [(2, 48), (2, 49), (0, 0), (0, 0), (2, 50), (0, 0), (2, 51), (2, 57), (0, 0), (2, 58), (2, 59), (0, 0)])) := rfl
theorem lx_48 : LX[48]? = some (.inl (0, 26, 0, ev_k0)) := rfl
theorem lx_49 : LX[49]? = some (.inl (0, 26, 0, ev_k0)) := rfl
theorem lx_50 : LX[50]? = some (.inl (0, 8, 0, ev_k0)) := rfl
theorem lx_51 : LX[51]? = some (.inl (3, 5, 2, (fun j => 52 + j))) := rfl
theorem lx_52 : LX[52]? = some (.inl (0, 9, 0, ev_k0)) := rfl
theorem lx_53 : LX[53]? = some (.inl (0, 9, 0, ev_k0)) := rfl
theorem lx_54 : LX[54]? = some (.inl (0, 9, 0, ev_k0)) := rfl
theorem lx_55 : LX[55]? = some (.inl (0, 9, 0, ev_k0)) := rfl
theorem lx_56 : LX[56]? = some (.inl (0, 9, 0, ev_k0)) := rfl
theorem lx_57 : LX[57]? = some (.inl (0, 5, 0, ev_k0)) := rfl
theorem lx_58 : LX[58]? = some (.inl (0, 8, 0, ev_k0)) := rfl
theorem lx_59 : LX[59]? = some (.inl (0, 8, 0, ev_k0)) := rfl
theorem lx_60 : LX[60]? = some (.inl (4, 4, 2, (fun j => 61 + 5 * j))) := rfl
theorem lx_61 : LX[61]? = some (.inr (8, [(2, 62), (0, 0), (2, 63), (2, 64), (0, 0), (2, 65)])) := rfl
theorem lx_62 : LX[62]? = some (.inl (0, 300, 0, ev_k0)) := rfl
theorem lx_63 : LX[63]? = some (.inl (0, 24, 0, ev_k0)) := rfl
theorem lx_64 : LX[64]? = some (.inl (0, 24, 0, ev_k0)) := rfl
theorem lx_65 : LX[65]? = some (.inl (0, 3, 0, ev_k0)) := rfl
theorem lx_66 : LX[66]? = some (.inr (8, [(2, 67), (0, 0), (2, 68), (2, 69), (0, 0), (2, 70)])) := rfl
theorem lx_67 : LX[67]? = some (.inl (0, 300, 0, ev_k0)) := rfl
theorem lx_68 : LX[68]? = some (.inl (0, 24, 0, ev_k0)) := rfl
theorem lx_69 : LX[69]? = some (.inl (0, 24, 0, ev_k0)) := rfl
theorem lx_70 : LX[70]? = some (.inl (0, 3, 0, ev_k0)) := rfl
theorem lx_71 : LX[71]? = some (.inr (8, [(2, 72), (0, 0), (2, 73), (2, 74), (0, 0), (2, 75)])) := rfl
theorem lx_72 : LX[72]? = some (.inl (0, 300, 0, ev_k0)) := rfl
theorem lx_73 : LX[73]? = some (.inl (0, 24, 0, ev_k0)) := rfl
theorem lx_74 : LX[74]? = some (.inl (0, 24, 0, ev_k0)) := rfl
theorem lx_75 : LX[75]? = some (.inl (0, 3, 0, ev_k0)) := rfl
theorem lx_76 : LX[76]? = some (.inr (8, [(2, 77), (0, 0), (2, 78), (2, 79), (0, 0), (2, 80)])) := rfl
theorem lx_77 : LX[77]? = some (.inl (0, 300, 0, ev_k0)) := rfl
theorem lx_78 : LX[78]? = some (.inl (0, 24, 0, ev_k0)) := rfl
theorem lx_79 : LX[79]? = some (.inl (0, 24, 0, ev_k0)) := rfl
theorem lx_80 : LX[80]? = some (.inl (0, 3, 0, ev_k0)) := rfl
theorem lx_81 : LX[81]? = some (.inr (4, [(2, 1), (3, 0), (0, 0), (0, 0), (0, 0), (0, 0), (0, 0), (0, 0), (0, 0)])) := rfl
theorem lx_82 : LX[82]? = some (.inr (5, [(2, 3), (2, 47)])) := rfl
theorem lx_83 : LX[83]? = some (.inr (1, [(2, 3), (2, 43), (2, 84), (2, 85), (0, 0)])) := rfl
theorem lx_84 : LX[84]? = some (.inl (0, 12, 0, ev_k0)) := rfl
theorem lx_85 : LX[85]? = some (.inl (0, 64, 0, ev_k0)) := rfl
theorem lx_86 : LX[86]? = some (.inr (6, [(2, 3), (2, 82), (2, 83), (0, 0), (2, 87), (2, 88), (2, 89), (2, 90), (0, 0), (2, 91), (2, 97), (2, 98), (2, 99), (0, 0), (0, 0), (0, 0), (0, 0), (0, 0)])) := rfl
theorem lx_87 : LX[87]? = some (.inl (1, 24, 0, ev_k0)) := rfl
theorem lx_88 : LX[88]? = some (.inl (0, 24, 0, ev_k0)) := rfl
theorem lx_89 : LX[89]? = some (.inl (0, 240, 0, ev_k0)) := rfl
theorem lx_90 : LX[90]? = some (.inl (0, 240, 0, ev_k0)) := rfl
theorem lx_91 : LX[91]? = some (.inl (3, 5, 2, (fun j => 92 + j))) := rfl
theorem lx_92 : LX[92]? = some (.inl (0, 24, 0, ev_k0)) := rfl
theorem lx_93 : LX[93]? = some (.inl (0, 24, 0, ev_k0)) := rfl
theorem lx_94 : LX[94]? = some (.inl (0, 24, 0, ev_k0)) := rfl
theorem lx_95 : LX[95]? = some (.inl (0, 24, 0, ev_k0)) := rfl
theorem lx_96 : LX[96]? = some (.inl (0, 24, 0, ev_k0)) := rfl
theorem lx_97 : LX[97]? = some (.inr (2, [(0, 0), (0, 0), (0, 0)])) := rfl
theorem lx_98 : LX[98]? = some (.inr (2, [(0, 0), (0, 0), (0, 0)])) := rfl
theorem lx_99 : LX[99]? = some (.inl (0, 5, 0, ev_k0)) := rfl
theorem lx_100 : LX[100]? = some (.inr (9, [(0, 0), (2, 101), (0, 0), (0, 0), (0, 0), (2, 102), (0, 0), (2, 103), (0, 0), (0, 0)])) := rfl
theorem lx_101 : LX[101]? = some (.inl (0, 26, 0, ev_k0)) := rfl
theorem lx_102 : LX[102]? = some (.inl (0, 360, 0, ev_k0)) := rfl
theorem lx_103 : LX[103]? = some (.inl (0, 930, 0, ev_k0)) := rfl
theorem lx_104 : LX[104]? = some (.inr (3, [(2, 105), (2, 106), (0, 0), (0, 0), (2, 107), (0, 0), (2, 108), (2, 114), (0, 0), (2, 115), (2, 116), (0, 0)])) := rfl
theorem lx_105 : LX[105]? = some (.inl (0, 26, 0, ev_k0)) := rfl
theorem lx_106 : LX[106]? = some (.inl (0, 26, 0, ev_k0)) := rfl
theorem lx_107 : LX[107]? = some (.inl (0, 8, 0, ev_k0)) := rfl
theorem lx_108 : LX[108]? = some (.inl (3, 5, 2, (fun j => 109 + j))) := rfl
theorem lx_109 : LX[109]? = some (.inl (0, 9, 0, ev_k0)) := rfl
theorem lx_110 : LX[110]? = some (.inl (0, 9, 0, ev_k0)) := rfl
theorem lx_111 : LX[111]? = some (.inl (0, 9, 0, ev_k0)) := rfl
theorem lx_112 : LX[112]? = some (.inl (0, 9, 0, ev_k0)) := rfl
theorem lx_113 : LX[113]? = some (.inl (0, 9, 0, ev_k0)) := rfl
theorem lx_114 : LX[114]? = some (.inl (0, 5, 0, ev_k0)) := rfl
theorem lx_115 : LX[115]? = some (.inl (0, 8, 0, ev_k0)) := rfl
theorem lx_116 : LX[116]? = some (.inl (0, 8, 0, ev_k0)) := rfl
theorem lx_117 : LX[117]? = some (.inl (0, 3, 0, ev_k0)) := rfl
theorem lx_118 : LX[118]? = some (.inl (0, 9, 0, ev_k0)) := rfl
theorem lx_119 : LX[119]? = some (.inl (0, 26, 0, ev_k0)) := rfl
theorem lx_120 : LX[120]? = some (.inl (0, 8, 0, ev_k0)) := rfl
theorem lx_121 : LX[121]? = some (.inl (0, 8, 0, ev_k0)) := rfl
def LM : List ev_C := [.inr (11, [(2, 1), (2, 2), (2, 3), (2, 4), (2, 5), (0, 0), (0, 0), (0, 0), (0, 0), (0, 0), (0, 0), (0, 0), (1, 0), (0, 0), (0, 0), (0, 0), (2, 6), (0, 0), (0, 0), (0, 0), (0, 0), (2, 7), (2, 8), (2, 9), (2, 10), (2, 11), (2, 12), (2, 13), (2, 14), (2, 15), (2, 16), (2, 17), (0, 0), (2, 18), (2, 19)]), .inl (0, 3315, 0, ev_k0), .inl (0, 3315, 0, ev_k0), .inl (0, 3, 0, ev_k0), .inl (0, 3780, 0, ev_k0), .inl (0, 300, 0, ev_k0), .inl (0, 160, 0, ev_k0), .inl (0, 12, 0, ev_k0), .inl (2, 330, 1, ev_k0), .inl (1, 330, 0, ev_k0), .inl (0, 5, 0, ev_k0), .inl (0, 24, 0, ev_k0), .inl (0, 120, 0, ev_k0), .inl (0, 5, 0, ev_k0), .inl (0, 24, 0, ev_k0), .inl (0, 24, 0, ev_k0), .inl (0, 26, 0, ev_k0), .inl (0, 8, 0, ev_k0), .inl (0, 8, 0, ev_k0), .inl (0, 8, 0, ev_k0)]
theorem lm_0 : LM[0]? = some (.inr (11, [(2, 1), (2, 2), (2, 3), (2, 4), (2, 5), (0, 0), (0, 0), (0, 0), (0, 0), (0, 0), (0, 0), (0, 0), (1, 0), (0, 0), (0, 0), (0, 0), (2, 6), (0, 0), (0, 0), (0, 0), (0, 0), (2, 7), (2, 8), (2, 9), (2, 10), (2, 11), (2, 12), (2, 13), (2, 14), (2, 15), (2, 16), (2, 17), (0, 0), (2, 18), (2, 19)])) := rfl
theorem lm_1 : LM[1]? = some (.inl (0, 3315, 0, ev_k0)) := rfl
theorem lm_2 : LM[2]? = some (.inl (0, 3315, 0, ev_k0)) := rfl
theorem lm_3 : LM[3]? = some (.inl (0, 3, 0, ev_k0)) := rfl
theorem lm_4 : LM[4]? = some (.inl (0, 3780, 0, ev_k0)) := rfl
theorem lm_5 : LM[5]? = some (.inl (0, 300, 0, ev_k0)) := rfl
theorem lm_6 : LM[6]? = some (.inl (0, 160, 0, ev_k0)) := rfl
theorem lm_7 : LM[7]? = some (.inl (0, 12, 0, ev_k0)) := rfl
theorem lm_8 : LM[8]? = some (.inl (2, 330, 1, ev_k0)) := rfl
theorem lm_9 : LM[9]? = some (.inl (1, 330, 0, ev_k0)) := rfl
theorem lm_10 : LM[10]? = some (.inl (0, 5, 0, ev_k0)) := rfl
theorem lm_11 : LM[11]? = some (.inl (0, 24, 0, ev_k0)) := rfl
theorem lm_12 : LM[12]? = some (.inl (0, 120, 0, ev_k0)) := rfl
theorem lm_13 : LM[13]? = some (.inl (0, 5, 0, ev_k0)) := rfl
theorem lm_14 : LM[14]? = some (.inl (0, 24, 0, ev_k0)) := rfl
theorem lm_15 : LM[15]? = some (.inl (0, 24, 0, ev_k0)) := rfl
theorem lm_16 : LM[16]? = some (.inl (0, 26, 0, ev_k0)) := rfl
theorem lm_17 : LM[17]? = some (.inl (0, 8, 0, ev_k0)) := rfl
theorem lm_18 : LM[18]? = some (.inl (0, 8, 0, ev_k0)) := rfl
theorem lm_19 : LM[19]? = some (.inl (0, 8, 0, ev_k0)) := rfl
theorem lx_sp {j : Nat} (h : j < 24) : LX[5 + j]? = some (.inl (0, 9, 0, ev_k0)) := by
  match j, h with
  | 0, _ => rfl
  | 1, _ => rfl
  | 2, _ => rfl
  | 3, _ => rfl
  | 4, _ => rfl
  | 5, _ => rfl
  | 6, _ => rfl
  | 7, _ => rfl
  | 8, _ => rfl
  | 9, _ => rfl
  | 10, _ => rfl
  | 11, _ => rfl
  | 12, _ => rfl
  | 13, _ => rfl
  | 14, _ => rfl
  | 15, _ => rfl
  | 16, _ => rfl
  | 17, _ => rfl
  | 18, _ => rfl
  | 19, _ => rfl
  | 20, _ => rfl
  | 21, _ => rfl
  | 22, _ => rfl
  | 23, _ => rfl
  | j + 24, h => exact absurd h (by omega)
theorem lx_ro {j : Nat} (h : j < 8) : LX[34 + j]? = some (.inl (0, 5, 0, ev_k0)) := by
  match j, h with
  | 0, _ => rfl
  | 1, _ => rfl
  | 2, _ => rfl
  | 3, _ => rfl
  | 4, _ => rfl
  | 5, _ => rfl
  | 6, _ => rfl
  | 7, _ => rfl
  | j + 8, h => exact absurd h (by omega)
theorem lx_re {j : Nat} (h : j < 5) : LX[52 + j]? = some (.inl (0, 9, 0, ev_k0)) := by
  match j, h with
  | 0, _ => rfl
  | 1, _ => rfl
  | 2, _ => rfl
  | 3, _ => rfl
  | 4, _ => rfl
  | j + 5, h => exact absurd h (by omega)
theorem lx_rk {j : Nat} (h : j < 5) : LX[109 + j]? = some (.inl (0, 9, 0, ev_k0)) := by
  match j, h with
  | 0, _ => rfl
  | 1, _ => rfl
  | 2, _ => rfl
  | 3, _ => rfl
  | 4, _ => rfl
  | j + 5, h => exact absurd h (by omega)
theorem lx_co {j : Nat} (h : j < 5) : LX[92 + j]? = some (.inl (0, 24, 0, ev_k0)) := by
  match j, h with
  | 0, _ => rfl
  | 1, _ => rfl
  | 2, _ => rfl
  | 3, _ => rfl
  | 4, _ => rfl
  | j + 5, h => exact absurd h (by omega)
def ev_isT (k : Nat) : Prop := ∃ j, j < 4 ∧ k = 61 + 5 * j
theorem lx_T {k : Nat} (h : ev_isT k) : LX[k]? = some (.inr (8, [(2, k + 1), (0, 0), (2, k + 2), (2, k + 3), (0, 0), (2, k + 4)])) := by
  obtain ⟨j, h, rfl⟩ := h
  match j, h with
  | 0, _ => rfl
  | 1, _ => rfl
  | 2, _ => rfl
  | 3, _ => rfl
  | j + 4, h => exact absurd h (by omega)
theorem lx_T1 {k : Nat} (h : ev_isT k) : LX[k + 1]? = some (.inl (0, 300, 0, ev_k0)) := by
  obtain ⟨j, h, rfl⟩ := h
  match j, h with
  | 0, _ => rfl
  | 1, _ => rfl
  | 2, _ => rfl
  | 3, _ => rfl
  | j + 4, h => exact absurd h (by omega)
theorem lx_T2 {k : Nat} (h : ev_isT k) : LX[k + 2]? = some (.inl (0, 24, 0, ev_k0)) := by
  obtain ⟨j, h, rfl⟩ := h
  match j, h with
  | 0, _ => rfl
  | 1, _ => rfl
  | 2, _ => rfl
  | 3, _ => rfl
  | j + 4, h => exact absurd h (by omega)
theorem lx_T3 {k : Nat} (h : ev_isT k) : LX[k + 3]? = some (.inl (0, 24, 0, ev_k0)) := by
  obtain ⟨j, h, rfl⟩ := h
  match j, h with
  | 0, _ => rfl
  | 1, _ => rfl
  | 2, _ => rfl
  | 3, _ => rfl
  | j + 4, h => exact absurd h (by omega)
theorem lx_T4 {k : Nat} (h : ev_isT k) : LX[k + 4]? = some (.inl (0, 3, 0, ev_k0)) := by
  obtain ⟨j, h, rfl⟩ := h
  match j, h with
  | 0, _ => rfl
  | 1, _ => rfl
  | 2, _ => rfl
  | 3, _ => rfl
  | j + 4, h => exact absurd h (by omega)
theorem lw_0 : ∀ w ∈ u_ws RX0 TX0 9, w ∈ ev_T := by
  show ∀ w ∈ [u_lay RX0 TX0 0, u_lay RX0 TX0 1, u_lay RX0 TX0 2, u_lay RX0 TX0 3, u_lay RX0 TX0 4, u_lay RX0 TX0 5, u_lay RX0 TX0 6, u_lay RX0 TX0 7, u_lay RX0 TX0 8], w ∈ ev_T
  simp only [List.forall_mem_cons]
  exact ⟨(ev_t1 85 rfl rfl), (ev_t1 87 rfl rfl), (ev_t1 89 rfl rfl), (ev_t1 91 rfl rfl), (ev_t1 93 rfl rfl), (ev_t1 95 rfl rfl), (ev_t1 97 rfl rfl), (ev_t1 99 rfl rfl), (ev_t1 101 rfl rfl), fun _ h => absurd h List.not_mem_nil⟩
theorem lw_1 : ∀ w ∈ u_ws RX1 TX1 5, w ∈ ev_T := by
  show ∀ w ∈ [u_lay RX1 TX1 0, u_lay RX1 TX1 1, u_lay RX1 TX1 2, u_lay RX1 TX1 3, u_lay RX1 TX1 4], w ∈ ev_T
  simp only [List.forall_mem_cons]
  exact ⟨(ev_t2 66 rfl rfl), (ev_t2 68 rfl rfl), (ev_t2 70 rfl rfl), (ev_t2 72 rfl rfl), (ev_t2 74 rfl rfl), fun _ h => absurd h List.not_mem_nil⟩
theorem lw_2 : ∀ w ∈ u_ws RX2 TX2 3, w ∈ ev_T := by
  show ∀ w ∈ [u_lay RX2 TX2 0, u_lay RX2 TX2 1, u_lay RX2 TX2 2], w ∈ ev_T
  simp only [List.forall_mem_cons]
  exact ⟨(ev_t2 94 rfl rfl), (ev_t2 96 rfl rfl), (ev_t2 98 rfl rfl), fun _ h => absurd h List.not_mem_nil⟩
theorem lw_3 : ∀ w ∈ u_ws RX3 TX3 12, w ∈ ev_T := by
  show ∀ w ∈ [u_lay RX3 TX3 0, u_lay RX3 TX3 1, u_lay RX3 TX3 2, u_lay RX3 TX3 3, u_lay RX3 TX3 4, u_lay RX3 TX3 5, u_lay RX3 TX3 6, u_lay RX3 TX3 7, u_lay RX3 TX3 8, u_lay RX3 TX3 9, u_lay RX3 TX3 10, u_lay RX3 TX3 11], w ∈ ev_T
  simp only [List.forall_mem_cons]
  exact ⟨(ev_t1 185 rfl rfl), (ev_t1 187 rfl rfl), (ev_t1 189 rfl rfl), (ev_t1 191 rfl rfl), (ev_t1 193 rfl rfl), (ev_t1 195 rfl rfl), (ev_t1 197 rfl rfl), (ev_t1 199 rfl rfl), (ev_t1 201 rfl rfl), (ev_t1 203 rfl rfl), (ev_t1 205 rfl rfl), (ev_t1 207 rfl rfl), fun _ h => absurd h List.not_mem_nil⟩
theorem lw_4 : ∀ w ∈ u_ws RX4 TX4 9, w ∈ ev_T := by
  show ∀ w ∈ [u_lay RX4 TX4 0, u_lay RX4 TX4 1, u_lay RX4 TX4 2, u_lay RX4 TX4 3, u_lay RX4 TX4 4, u_lay RX4 TX4 5, u_lay RX4 TX4 6, u_lay RX4 TX4 7, u_lay RX4 TX4 8], w ∈ ev_T
  simp only [List.forall_mem_cons]
  exact ⟨(ev_t1 230 rfl rfl), (ev_t1 232 rfl rfl), (ev_t1 234 rfl rfl), (ev_t1 236 rfl rfl), (ev_t1 238 rfl rfl), (ev_t2 0 rfl rfl), (ev_t2 2 rfl rfl), (ev_t2 4 rfl rfl), (ev_t2 6 rfl rfl), fun _ h => absurd h List.not_mem_nil⟩
theorem lw_5 : ∀ w ∈ u_ws RX5 TX5 2, w ∈ ev_T := by
  show ∀ w ∈ [u_lay RX5 TX5 0, u_lay RX5 TX5 1], w ∈ ev_T
  simp only [List.forall_mem_cons]
  exact ⟨(ev_t2 50 rfl rfl), (ev_t2 52 rfl rfl), fun _ h => absurd h List.not_mem_nil⟩
theorem lw_6 : ∀ w ∈ u_ws RX6 TX6 18, w ∈ ev_T := by
  show ∀ w ∈ [u_lay RX6 TX6 0, u_lay RX6 TX6 1, u_lay RX6 TX6 2, u_lay RX6 TX6 3, u_lay RX6 TX6 4, u_lay RX6 TX6 5, u_lay RX6 TX6 6, u_lay RX6 TX6 7, u_lay RX6 TX6 8, u_lay RX6 TX6 9, u_lay RX6 TX6 10, u_lay RX6 TX6 11, u_lay RX6 TX6 12, u_lay RX6 TX6 13, u_lay RX6 TX6 14, u_lay RX6 TX6 15, u_lay RX6 TX6 16, u_lay RX6 TX6 17], w ∈ ev_T
  simp only [List.forall_mem_cons]
  exact ⟨(ev_t2 126 rfl rfl), (ev_t2 128 rfl rfl), (ev_t2 130 rfl rfl), (ev_t2 132 rfl rfl), (ev_t2 134 rfl rfl), (ev_t2 136 rfl rfl), (ev_t2 138 rfl rfl), (ev_t2 140 rfl rfl), (ev_t2 142 rfl rfl), (ev_t2 144 rfl rfl), (ev_t2 146 rfl rfl), (ev_t2 148 rfl rfl), (ev_t2 150 rfl rfl), (ev_t2 152 rfl rfl), (ev_t2 154 rfl rfl), (ev_t2 156 rfl rfl), (ev_t2 158 rfl rfl), (ev_t2 160 rfl rfl), fun _ h => absurd h List.not_mem_nil⟩
theorem lw_7 : ∀ w ∈ u_ws RX7 TX7 2, w ∈ ev_T := by
  show ∀ w ∈ [u_lay RX7 TX7 0, u_lay RX7 TX7 1], w ∈ ev_T
  simp only [List.forall_mem_cons]
  exact ⟨(ev_t1 41 rfl rfl), (ev_t1 43 rfl rfl), fun _ h => absurd h List.not_mem_nil⟩
theorem lw_8 : ∀ w ∈ u_ws RX8 TX8 6, w ∈ ev_T := by
  show ∀ w ∈ [u_lay RX8 TX8 0, u_lay RX8 TX8 1, u_lay RX8 TX8 2, u_lay RX8 TX8 3, u_lay RX8 TX8 4, u_lay RX8 TX8 5], w ∈ ev_T
  simp only [List.forall_mem_cons]
  exact ⟨(ev_t2 29 rfl rfl), (ev_t2 31 rfl rfl), (ev_t2 33 rfl rfl), (ev_t2 35 rfl rfl), (ev_t2 37 rfl rfl), (ev_t2 39 rfl rfl), fun _ h => absurd h List.not_mem_nil⟩
theorem lw_9 : ∀ w ∈ u_ws RX9 TX9 10, w ∈ ev_T := by
  show ∀ w ∈ [u_lay RX9 TX9 0, u_lay RX9 TX9 1, u_lay RX9 TX9 2, u_lay RX9 TX9 3, u_lay RX9 TX9 4, u_lay RX9 TX9 5, u_lay RX9 TX9 6, u_lay RX9 TX9 7, u_lay RX9 TX9 8, u_lay RX9 TX9 9], w ∈ ev_T
  simp only [List.forall_mem_cons]
  exact ⟨(ev_t1 128 rfl rfl), (ev_t1 130 rfl rfl), (ev_t1 132 rfl rfl), (ev_t1 134 rfl rfl), (ev_t1 136 rfl rfl), (ev_t1 138 rfl rfl), (ev_t1 140 rfl rfl), (ev_t1 142 rfl rfl), (ev_t1 144 rfl rfl), (ev_t1 146 rfl rfl), fun _ h => absurd h List.not_mem_nil⟩
theorem lw_10 : ∀ w ∈ u_ws RX10 TX10 18, w ∈ ev_T := by
  show ∀ w ∈ [u_lay RX10 TX10 0, u_lay RX10 TX10 1, u_lay RX10 TX10 2, u_lay RX10 TX10 3, u_lay RX10 TX10 4, u_lay RX10 TX10 5, u_lay RX10 TX10 6, u_lay RX10 TX10 7, u_lay RX10 TX10 8, u_lay RX10 TX10 9, u_lay RX10 TX10 10, u_lay RX10 TX10 11, u_lay RX10 TX10 12, u_lay RX10 TX10 13, u_lay RX10 TX10 14, u_lay RX10 TX10 15, u_lay RX10 TX10 16, u_lay RX10 TX10 17], w ∈ ev_T
  simp only [List.forall_mem_cons]
  exact ⟨(ev_t2 181 rfl rfl), (ev_t2 183 rfl rfl), (ev_t2 185 rfl rfl), (ev_t2 187 rfl rfl), (ev_t2 189 rfl rfl), (ev_t2 191 rfl rfl), (ev_t2 193 rfl rfl), (ev_t2 195 rfl rfl), (ev_t2 197 rfl rfl), (ev_t2 199 rfl rfl), (ev_t2 201 rfl rfl), (ev_t2 203 rfl rfl), (ev_t2 205 rfl rfl), (ev_t2 207 rfl rfl), (ev_t2 209 rfl rfl), (ev_t2 211 rfl rfl), (ev_t2 213 rfl rfl), (ev_t2 215 rfl rfl), fun _ h => absurd h List.not_mem_nil⟩
theorem lw_11 : ∀ w ∈ u_ws RX11 TX11 35, w ∈ ev_T := by
  show ∀ w ∈ [u_lay RX11 TX11 0, u_lay RX11 TX11 1, u_lay RX11 TX11 2, u_lay RX11 TX11 3, u_lay RX11 TX11 4, u_lay RX11 TX11 5, u_lay RX11 TX11 6, u_lay RX11 TX11 7, u_lay RX11 TX11 8, u_lay RX11 TX11 9, u_lay RX11 TX11 10, u_lay RX11 TX11 11, u_lay RX11 TX11 12, u_lay RX11 TX11 13, u_lay RX11 TX11 14, u_lay RX11 TX11 15, u_lay RX11 TX11 16, u_lay RX11 TX11 17, u_lay RX11 TX11 18, u_lay RX11 TX11 19, u_lay RX11 TX11 20, u_lay RX11 TX11 21, u_lay RX11 TX11 22, u_lay RX11 TX11 23, u_lay RX11 TX11 24, u_lay RX11 TX11 25, u_lay RX11 TX11 26, u_lay RX11 TX11 27, u_lay RX11 TX11 28, u_lay RX11 TX11 29, u_lay RX11 TX11 30, u_lay RX11 TX11 31, u_lay RX11 TX11 32, u_lay RX11 TX11 33, u_lay RX11 TX11 34], w ∈ ev_T
  simp only [List.forall_mem_cons]
  exact ⟨(ev_t6 58 rfl rfl), (ev_t6 60 rfl rfl), (ev_t6 62 rfl rfl), (ev_t6 64 rfl rfl), (ev_t6 66 rfl rfl), (ev_t6 68 rfl rfl), (ev_t6 70 rfl rfl), (ev_t6 72 rfl rfl), (ev_t6 74 rfl rfl), (ev_t6 76 rfl rfl), (ev_t6 78 rfl rfl), (ev_t6 80 rfl rfl), (ev_t6 82 rfl rfl), (ev_t6 84 rfl rfl), (ev_t6 86 rfl rfl), (ev_t6 88 rfl rfl), (ev_t6 90 rfl rfl), (ev_t6 92 rfl rfl), (ev_t6 94 rfl rfl), (ev_t6 96 rfl rfl), (ev_t6 98 rfl rfl), (ev_t6 100 rfl rfl), (ev_t6 102 rfl rfl), (ev_t6 104 rfl rfl), (ev_t6 106 rfl rfl), (ev_t6 108 rfl rfl), (ev_t6 110 rfl rfl), (ev_t6 112 rfl rfl), (ev_t6 114 rfl rfl), (ev_t6 116 rfl rfl), (ev_t6 118 rfl rfl), (ev_t6 120 rfl rfl), (ev_t6 122 rfl rfl), (ev_t6 124 rfl rfl), (ev_t6 126 rfl rfl), fun _ h => absurd h List.not_mem_nil⟩
theorem iw_WithoutELaw : Cond.initialized "WithoutELaw" ∈ ev_T := (ev_t1 0 rfl rfl)
theorem iw_WithoutE : Cond.initialized "WithoutE" ∈ ev_T := (ev_t1 1 rfl rfl)
theorem iw_WithoutE_Tape : Cond.initialized "WithoutE$Tape" ∈ ev_T := (ev_t1 2 rfl rfl)
theorem iw_WithoutE_Dictionary : Cond.initialized "WithoutE$Dictionary" ∈ ev_T := (ev_t1 3 rfl rfl)
theorem iw_WithoutE_Typewriter : Cond.initialized "WithoutE$Typewriter" ∈ ev_T := (ev_t1 4 rfl rfl)
theorem iw_WithoutE_Notes : Cond.initialized "WithoutE$Notes" ∈ ev_T := (ev_t1 5 rfl rfl)
theorem iw_java_util_Arrays : Cond.initialized "java/util/Arrays" ∈ ev_T := (ev_t1 6 rfl rfl)
theorem iw_WithoutE_Reader : Cond.initialized "WithoutE$Reader" ∈ ev_T := (ev_t1 7 rfl rfl)
theorem iw_WithoutE_Text : Cond.initialized "WithoutE$Text" ∈ ev_T := (ev_t1 8 rfl rfl)
theorem iw_WithoutE_Sound : Cond.initialized "WithoutE$Sound" ∈ ev_T := (ev_t1 9 rfl rfl)
theorem iw_WithoutE_Laws : Cond.initialized "WithoutE$Laws" ∈ ev_T := (ev_t1 10 rfl rfl)
theorem iw_WithoutE_Speech : Cond.initialized "WithoutE$Speech" ∈ ev_T := (ev_t1 11 rfl rfl)
theorem iw_WithoutE_Lowest : Cond.initialized "WithoutE$Lowest" ∈ ev_T := (ev_t1 12 rfl rfl)
theorem iw_WithoutEModel : Cond.initialized "WithoutEModel" ∈ ev_T := (ev_t1 13 rfl rfl)
theorem iw_java_lang_String : Cond.initialized "java/lang/String" ∈ ev_T := (ev_t1 14 rfl rfl)
theorem iw_java_lang_StringLatin1 : Cond.initialized "java/lang/StringLatin1" ∈ ev_T := (ev_t1 15 rfl rfl)
theorem iw_jdk_internal_util_Preconditions : Cond.initialized "jdk/internal/util/Preconditions" ∈ ev_T := (ev_t1 16 rfl rfl)
theorem iw_java_lang_StringUTF16 : Cond.initialized "java/lang/StringUTF16" ∈ ev_T := (ev_t1 17 rfl rfl)
theorem iw_java_lang_Math : Cond.initialized "java/lang/Math" ∈ ev_T := (ev_t1 18 rfl rfl)
theorem iw_java_lang_System : Cond.initialized "java/lang/System" ∈ ev_T := (ev_t1 19 rfl rfl)
theorem iw_java_lang_Integer : Cond.initialized "java/lang/Integer" ∈ ev_T := (ev_t1 20 rfl rfl)
theorem lbX0_hasWord : ev_LB mX0_hasWord 1 := ⟨iw_WithoutE_Dictionary, (ev_t4 26 rfl rfl), by decide +kernel, by decide +kernel⟩
theorem imX0_hasWord : Cond.instanceMethod mX0_hasWord.1 ∈ ev_T := (ev_t4 24 rfl rfl)
theorem seX0_hasWord : Cond.selects mX0_hasWord.1.cls mX0_hasWord.1 mX0_hasWord.1 ∈ ev_T := (ev_t4 25 rfl rfl)
theorem lbX0_hasSentence : ev_LB mX0_hasSentence 1 := ⟨iw_WithoutE_Dictionary, (ev_t4 34 rfl rfl), by decide +kernel, by decide +kernel⟩
theorem imX0_hasSentence : Cond.instanceMethod mX0_hasSentence.1 ∈ ev_T := (ev_t4 32 rfl rfl)
theorem seX0_hasSentence : Cond.selects mX0_hasSentence.1.cls mX0_hasSentence.1 mX0_hasSentence.1 ∈ ev_T := (ev_t4 33 rfl rfl)
theorem lbX0_tellWord : ev_LB mX0_tellWord 6 := ⟨iw_WithoutE_Dictionary, (ev_t3 229 rfl rfl), by decide +kernel, by decide +kernel⟩
theorem imX0_tellWord : Cond.instanceMethod mX0_tellWord.1 ∈ ev_T := (ev_t3 227 rfl rfl)
theorem seX0_tellWord : Cond.selects mX0_tellWord.1.cls mX0_tellWord.1 mX0_tellWord.1 ∈ ev_T := (ev_t3 228 rfl rfl)
theorem lbX0_tellSentence : ev_LB mX0_tellSentence 3 := ⟨iw_WithoutE_Dictionary, (ev_t3 237 rfl rfl), by decide +kernel, by decide +kernel⟩
theorem imX0_tellSentence : Cond.instanceMethod mX0_tellSentence.1 ∈ ev_T := (ev_t3 235 rfl rfl)
theorem seX0_tellSentence : Cond.selects mX0_tellSentence.1.cls mX0_tellSentence.1 mX0_tellSentence.1 ∈ ev_T := (ev_t3 236 rfl rfl)
theorem lbX0_lettersOf : ev_LB mX0_lettersOf 1 := ⟨iw_WithoutE_Dictionary, (ev_t5 137 rfl rfl), by decide +kernel, by decide +kernel⟩
theorem imX0_lettersOf : Cond.instanceMethod mX0_lettersOf.1 ∈ ev_T := (ev_t5 135 rfl rfl)
theorem seX0_lettersOf : Cond.selects mX0_lettersOf.1.cls mX0_lettersOf.1 mX0_lettersOf.1 ∈ ev_T := (ev_t5 136 rfl rfl)
theorem lbX1_stiffness : ev_LB mX1_stiffness 5 := ⟨iw_WithoutE_Laws, (ev_t4 86 rfl rfl), by decide +kernel, by decide +kernel⟩
theorem imX1_stiffness : Cond.instanceMethod mX1_stiffness.1 ∈ ev_T := (ev_t4 84 rfl rfl)
theorem seX1_stiffness : Cond.selects mX1_stiffness.1.cls mX1_stiffness.1 mX1_stiffness.1 ∈ ev_T := (ev_t4 85 rfl rfl)
theorem lbX1_wearOdds : ev_LB mX1_wearOdds 3 := ⟨iw_WithoutE_Laws, (ev_t4 195 rfl rfl), by decide +kernel, by decide +kernel⟩
theorem imX1_wearOdds : Cond.instanceMethod mX1_wearOdds.1 ∈ ev_T := (ev_t4 193 rfl rfl)
theorem seX1_wearOdds : Cond.selects mX1_wearOdds.1.cls mX1_wearOdds.1 mX1_wearOdds.1 ∈ ev_T := (ev_t4 194 rfl rfl)
theorem lbX1_noticeOdds : ev_LB mX1_noticeOdds 5 := ⟨iw_WithoutE_Laws, (ev_t5 102 rfl rfl), by decide +kernel, by decide +kernel⟩
theorem imX1_noticeOdds : Cond.instanceMethod mX1_noticeOdds.1 ∈ ev_T := (ev_t5 100 rfl rfl)
theorem seX1_noticeOdds : Cond.selects mX1_noticeOdds.1.cls mX1_noticeOdds.1 mX1_noticeOdds.1 ∈ ev_T := (ev_t5 101 rfl rfl)
theorem lbX1_within : ev_LB mX1_within 2 := ⟨iw_WithoutE_Laws, (ev_t4 115 rfl rfl), by decide +kernel, by decide +kernel⟩
theorem stX1_within : Cond.static mX1_within.1 ∈ ev_T := (ev_t4 114 rfl rfl)
theorem lbX1_run : ev_LB mX1_run 2 := ⟨iw_WithoutE_Laws, (ev_t4 90 rfl rfl), by decide +kernel, by decide +kernel⟩
theorem imX1_run : Cond.instanceMethod mX1_run.1 ∈ ev_T := (ev_t4 89 rfl rfl)
theorem seX1_run : Cond.selects mX1_run.1.cls mX1_run.1 mX1_run.1 ∈ ev_T := (ev_pi 34 (by decide +kernel) rfl)
theorem lbX1_push : ev_LB mX1_push 1 := ⟨iw_WithoutE_Laws, (ev_t4 98 rfl rfl), by decide +kernel, by decide +kernel⟩
theorem imX1_push : Cond.instanceMethod mX1_push.1 ∈ ev_T := (ev_t4 97 rfl rfl)
theorem seX1_push : Cond.selects mX1_push.1.cls mX1_push.1 mX1_push.1 ∈ ev_T := (ev_pi 36 (by decide +kernel) rfl)
theorem lbX1_pop : ev_LB mX1_pop 0 := ⟨iw_WithoutE_Laws, (ev_t4 94 rfl rfl), by decide +kernel, by decide +kernel⟩
theorem imX1_pop : Cond.instanceMethod mX1_pop.1 ∈ ev_T := (ev_t4 93 rfl rfl)
theorem seX1_pop : Cond.selects mX1_pop.1.cls mX1_pop.1 mX1_pop.1 ∈ ev_T := (ev_pi 35 (by decide +kernel) rfl)
theorem lbX1_usesOf : ev_LB mX1_usesOf 1 := ⟨iw_WithoutE_Laws, (ev_t4 102 rfl rfl), by decide +kernel, by decide +kernel⟩
theorem imX1_usesOf : Cond.instanceMethod mX1_usesOf.1 ∈ ev_T := (ev_t4 101 rfl rfl)
theorem seX1_usesOf : Cond.selects mX1_usesOf.1.cls mX1_usesOf.1 mX1_usesOf.1 ∈ ev_T := (ev_pi 37 (by decide +kernel) rfl)
theorem lbX1_join : ev_LB mX1_join 3 := ⟨iw_WithoutE_Laws, (ev_t4 105 rfl rfl), by decide +kernel, by decide +kernel⟩
theorem stX1_join : Cond.static mX1_join.1 ∈ ev_T := (ev_t4 104 rfl rfl)
theorem lbX1_clipped : ev_LB mX1_clipped 1 := ⟨iw_WithoutE_Laws, (ev_t4 108 rfl rfl), by decide +kernel, by decide +kernel⟩
theorem stX1_clipped : Cond.static mX1_clipped.1 ∈ ev_T := (ev_t4 107 rfl rfl)
theorem lbX2_start : ev_LB mX2_start 0 := ⟨iw_WithoutE_Lowest, (ev_t4 135 rfl rfl), by decide +kernel, by decide +kernel⟩
theorem imX2_start : Cond.instanceMethod mX2_start.1 ∈ ev_T := (ev_t4 133 rfl rfl)
theorem seX2_start : Cond.selects mX2_start.1.cls mX2_start.1 mX2_start.1 ∈ ev_T := (ev_t4 134 rfl rfl)
theorem lbX2_see : ev_LB mX2_see 2 := ⟨iw_WithoutE_Lowest, (ev_t4 140 rfl rfl), by decide +kernel, by decide +kernel⟩
theorem imX2_see : Cond.instanceMethod mX2_see.1 ∈ ev_T := (ev_t4 138 rfl rfl)
theorem seX2_see : Cond.selects mX2_see.1.cls mX2_see.1 mX2_see.1 ∈ ev_T := (ev_t4 139 rfl rfl)
theorem lbX2_without : ev_LB mX2_without 1 := ⟨iw_WithoutE_Lowest, (ev_t4 149 rfl rfl), by decide +kernel, by decide +kernel⟩
theorem imX2_without : Cond.instanceMethod mX2_without.1 ∈ ev_T := (ev_t4 147 rfl rfl)
theorem seX2_without : Cond.selects mX2_without.1.cls mX2_without.1 mX2_without.1 ∈ ev_T := (ev_t4 148 rfl rfl)
theorem lbX3_copyOf : ev_LB mX3_copyOf 1 := ⟨iw_WithoutE_Notes, (ev_t6 0 rfl rfl), by decide +kernel, by decide +kernel⟩
theorem imX3_copyOf : Cond.instanceMethod mX3_copyOf.1 ∈ ev_T := (ev_t5 238 rfl rfl)
theorem seX3_copyOf : Cond.selects mX3_copyOf.1.cls mX3_copyOf.1 mX3_copyOf.1 ∈ ev_T := (ev_t5 239 rfl rfl)
theorem lbX4_read : ev_LB mX4_read 1 := ⟨iw_WithoutE_Reader, (ev_t2 237 rfl rfl), by decide +kernel, by decide +kernel⟩
theorem imX4_read : Cond.instanceMethod mX4_read.1 ∈ ev_T := (ev_t2 235 rfl rfl)
theorem seX4_read : Cond.selects mX4_read.1.cls mX4_read.1 mX4_read.1 ∈ ev_T := (ev_t2 236 rfl rfl)
theorem lbX4_fail : ev_LB mX4_fail 1 := ⟨iw_WithoutE_Reader, (ev_t3 70 rfl rfl), by decide +kernel, by decide +kernel⟩
theorem imX4_fail : Cond.instanceMethod mX4_fail.1 ∈ ev_T := (ev_t3 69 rfl rfl)
theorem seX4_fail : Cond.selects mX4_fail.1.cls mX4_fail.1 mX4_fail.1 ∈ ev_T := (ev_pi 3 (by decide +kernel) rfl)
theorem lbX4_advance : ev_LB mX4_advance 0 := ⟨iw_WithoutE_Reader, (ev_t3 6 rfl rfl), by decide +kernel, by decide +kernel⟩
theorem imX4_advance : Cond.instanceMethod mX4_advance.1 ∈ ev_T := (ev_t3 5 rfl rfl)
theorem seX4_advance : Cond.selects mX4_advance.1.cls mX4_advance.1 mX4_advance.1 ∈ ev_T := (ev_pi 0 (by decide +kernel) rfl)
theorem lbX4_sortOf : ev_LB mX4_sortOf 1 := ⟨iw_WithoutE_Reader, (ev_t3 9 rfl rfl), by decide +kernel, by decide +kernel⟩
theorem stX4_sortOf : Cond.static mX4_sortOf.1 ∈ ev_T := (ev_t3 8 rfl rfl)
theorem lbX4_number : ev_LB mX4_number 0 := ⟨iw_WithoutE_Reader, (ev_t3 94 rfl rfl), by decide +kernel, by decide +kernel⟩
theorem imX4_number : Cond.instanceMethod mX4_number.1 ∈ ev_T := (ev_t3 93 rfl rfl)
theorem seX4_number : Cond.selects mX4_number.1.cls mX4_number.1 mX4_number.1 ∈ ev_T := (ev_pi 8 (by decide +kernel) rfl)
theorem lbX4_isToken : ev_LB mX4_isToken 1 := ⟨iw_WithoutE_Reader, (ev_t3 118 rfl rfl), by decide +kernel, by decide +kernel⟩
theorem imX4_isToken : Cond.instanceMethod mX4_isToken.1 ∈ ev_T := (ev_t3 117 rfl rfl)
theorem seX4_isToken : Cond.selects mX4_isToken.1.cls mX4_isToken.1 mX4_isToken.1 ∈ ev_T := (ev_pi 12 (by decide +kernel) rfl)
theorem lbX4_rankIn : ev_LB mX4_rankIn 1 := ⟨iw_WithoutE_Reader, (ev_t3 18 rfl rfl), by decide +kernel, by decide +kernel⟩
theorem imX4_rankIn : Cond.instanceMethod mX4_rankIn.1 ∈ ev_T := (ev_t3 17 rfl rfl)
theorem seX4_rankIn : Cond.selects mX4_rankIn.1.cls mX4_rankIn.1 mX4_rankIn.1 ∈ ev_T := (ev_pi 2 (by decide +kernel) rfl)
theorem lbX4_expectSign : ev_LB mX4_expectSign 1 := ⟨iw_WithoutE_Reader, (ev_t3 109 rfl rfl), by decide +kernel, by decide +kernel⟩
theorem imX4_expectSign : Cond.instanceMethod mX4_expectSign.1 ∈ ev_T := (ev_t3 108 rfl rfl)
theorem seX4_expectSign : Cond.selects mX4_expectSign.1.cls mX4_expectSign.1 mX4_expectSign.1 ∈ ev_T := (ev_pi 10 (by decide +kernel) rfl)
theorem lbX4_expectToken : ev_LB mX4_expectToken 1 := ⟨iw_WithoutE_Reader, (ev_t3 147 rfl rfl), by decide +kernel, by decide +kernel⟩
theorem imX4_expectToken : Cond.instanceMethod mX4_expectToken.1 ∈ ev_T := (ev_t3 146 rfl rfl)
theorem seX4_expectToken : Cond.selects mX4_expectToken.1.cls mX4_expectToken.1 mX4_expectToken.1 ∈ ev_T := (ev_pi 18 (by decide +kernel) rfl)
theorem lbX4_readClause : ev_LB mX4_readClause 1 := ⟨iw_WithoutE_Reader, (ev_t3 13 rfl rfl), by decide +kernel, by decide +kernel⟩
theorem imX4_readClause : Cond.instanceMethod mX4_readClause.1 ∈ ev_T := (ev_t3 12 rfl rfl)
theorem seX4_readClause : Cond.selects mX4_readClause.1.cls mX4_readClause.1 mX4_readClause.1 ∈ ev_T := (ev_pi 1 (by decide +kernel) rfl)
theorem lbX4_readDeed : ev_LB mX4_readDeed 1 := ⟨iw_WithoutE_Reader, (ev_t3 164 rfl rfl), by decide +kernel, by decide +kernel⟩
theorem imX4_readDeed : Cond.instanceMethod mX4_readDeed.1 ∈ ev_T := (ev_t3 163 rfl rfl)
theorem seX4_readDeed : Cond.selects mX4_readDeed.1.cls mX4_readDeed.1 mX4_readDeed.1 ∈ ev_T := (ev_pi 20 (by decide +kernel) rfl)
theorem lbX4_readNumber : ev_LB mX4_readNumber 2 := ⟨iw_WithoutE_Reader, (ev_t3 180 rfl rfl), by decide +kernel, by decide +kernel⟩
theorem imX4_readNumber : Cond.instanceMethod mX4_readNumber.1 ∈ ev_T := (ev_t3 179 rfl rfl)
theorem seX4_readNumber : Cond.selects mX4_readNumber.1.cls mX4_readNumber.1 mX4_readNumber.1 ∈ ev_T := (ev_pi 23 (by decide +kernel) rfl)
theorem lbX4_readSenses : ev_LB mX4_readSenses 0 := ⟨iw_WithoutE_Reader, (ev_t3 186 rfl rfl), by decide +kernel, by decide +kernel⟩
theorem imX4_readSenses : Cond.instanceMethod mX4_readSenses.1 ∈ ev_T := (ev_t3 185 rfl rfl)
theorem seX4_readSenses : Cond.selects mX4_readSenses.1.cls mX4_readSenses.1 mX4_readSenses.1 ∈ ev_T := (ev_pi 24 (by decide +kernel) rfl)
theorem lbX4_readLetters : ev_LB mX4_readLetters 0 := ⟨iw_WithoutE_Reader, (ev_t3 168 rfl rfl), by decide +kernel, by decide +kernel⟩
theorem imX4_readLetters : Cond.instanceMethod mX4_readLetters.1 ∈ ev_T := (ev_t3 167 rfl rfl)
theorem seX4_readLetters : Cond.selects mX4_readLetters.1.cls mX4_readLetters.1 mX4_readLetters.1 ∈ ev_T := (ev_pi 21 (by decide +kernel) rfl)
theorem lbX4_readLetter : ev_LB mX4_readLetter 0 := ⟨iw_WithoutE_Reader, (ev_t3 190 rfl rfl), by decide +kernel, by decide +kernel⟩
theorem imX4_readLetter : Cond.instanceMethod mX4_readLetter.1 ∈ ev_T := (ev_t3 189 rfl rfl)
theorem seX4_readLetter : Cond.selects mX4_readLetter.1.cls mX4_readLetter.1 mX4_readLetter.1 ∈ ev_T := (ev_pi 25 (by decide +kernel) rfl)
theorem lbX4_checkLetters : ev_LB mX4_checkLetters 1 := ⟨iw_WithoutE_Reader, (ev_t3 172 rfl rfl), by decide +kernel, by decide +kernel⟩
theorem imX4_checkLetters : Cond.instanceMethod mX4_checkLetters.1 ∈ ev_T := (ev_t3 171 rfl rfl)
theorem seX4_checkLetters : Cond.selects mX4_checkLetters.1.cls mX4_checkLetters.1 mX4_checkLetters.1 ∈ ev_T := (ev_pi 22 (by decide +kernel) rfl)
theorem lbX4_readSum : ev_LB mX4_readSum 1 := ⟨iw_WithoutE_Reader, (ev_t3 78 rfl rfl), by decide +kernel, by decide +kernel⟩
theorem imX4_readSum : Cond.instanceMethod mX4_readSum.1 ∈ ev_T := (ev_t3 77 rfl rfl)
theorem seX4_readSum : Cond.selects mX4_readSum.1.cls mX4_readSum.1 mX4_readSum.1 ∈ ev_T := (ev_pi 4 (by decide +kernel) rfl)
theorem lbX4_readProduct : ev_LB mX4_readProduct 1 := ⟨iw_WithoutE_Reader, (ev_t3 82 rfl rfl), by decide +kernel, by decide +kernel⟩
theorem imX4_readProduct : Cond.instanceMethod mX4_readProduct.1 ∈ ev_T := (ev_t3 81 rfl rfl)
theorem seX4_readProduct : Cond.selects mX4_readProduct.1.cls mX4_readProduct.1 mX4_readProduct.1 ∈ ev_T := (ev_pi 5 (by decide +kernel) rfl)
theorem lbX4_readOne : ev_LB mX4_readOne 1 := ⟨iw_WithoutE_Reader, (ev_t3 86 rfl rfl), by decide +kernel, by decide +kernel⟩
theorem imX4_readOne : Cond.instanceMethod mX4_readOne.1 ∈ ev_T := (ev_t3 85 rfl rfl)
theorem seX4_readOne : Cond.selects mX4_readOne.1.cls mX4_readOne.1 mX4_readOne.1 ∈ ev_T := (ev_pi 6 (by decide +kernel) rfl)
theorem lbX4_goDeeper : ev_LB mX4_goDeeper 1 := ⟨iw_WithoutE_Reader, (ev_t3 105 rfl rfl), by decide +kernel, by decide +kernel⟩
theorem imX4_goDeeper : Cond.instanceMethod mX4_goDeeper.1 ∈ ev_T := (ev_t3 104 rfl rfl)
theorem seX4_goDeeper : Cond.selects mX4_goDeeper.1.cls mX4_goDeeper.1 mX4_goDeeper.1 ∈ ev_T := (ev_pi 9 (by decide +kernel) rfl)
theorem lbX4_putOp : ev_LB mX4_putOp 1 := ⟨iw_WithoutE_Reader, (ev_t3 113 rfl rfl), by decide +kernel, by decide +kernel⟩
theorem imX4_putOp : Cond.instanceMethod mX4_putOp.1 ∈ ev_T := (ev_t3 112 rfl rfl)
theorem seX4_putOp : Cond.selects mX4_putOp.1.cls mX4_putOp.1 mX4_putOp.1 ∈ ev_T := (ev_pi 11 (by decide +kernel) rfl)
theorem lbX4_readPlainNumber : ev_LB mX4_readPlainNumber 0 := ⟨iw_WithoutE_Reader, (ev_t3 90 rfl rfl), by decide +kernel, by decide +kernel⟩
theorem imX4_readPlainNumber : Cond.instanceMethod mX4_readPlainNumber.1 ∈ ev_T := (ev_t3 89 rfl rfl)
theorem seX4_readPlainNumber : Cond.selects mX4_readPlainNumber.1.cls mX4_readPlainNumber.1 mX4_readPlainNumber.1 ∈ ev_T := (ev_pi 7 (by decide +kernel) rfl)
theorem lbX4_readName : ev_LB mX4_readName 0 := ⟨iw_WithoutE_Reader, (ev_t3 157 rfl rfl), by decide +kernel, by decide +kernel⟩
theorem imX4_readName : Cond.instanceMethod mX4_readName.1 ∈ ev_T := (ev_t3 156 rfl rfl)
theorem seX4_readName : Cond.selects mX4_readName.1.cls mX4_readName.1 mX4_readName.1 ∈ ev_T := (ev_pi 19 (by decide +kernel) rfl)
theorem lbX4_readChoice : ev_LB mX4_readChoice 1 := ⟨iw_WithoutE_Reader, (ev_t3 123 rfl rfl), by decide +kernel, by decide +kernel⟩
theorem imX4_readChoice : Cond.instanceMethod mX4_readChoice.1 ∈ ev_T := (ev_t3 122 rfl rfl)
theorem seX4_readChoice : Cond.selects mX4_readChoice.1.cls mX4_readChoice.1 mX4_readChoice.1 ∈ ev_T := (ev_pi 13 (by decide +kernel) rfl)
theorem lbX4_readEither : ev_LB mX4_readEither 1 := ⟨iw_WithoutE_Reader, (ev_t3 127 rfl rfl), by decide +kernel, by decide +kernel⟩
theorem imX4_readEither : Cond.instanceMethod mX4_readEither.1 ∈ ev_T := (ev_t3 126 rfl rfl)
theorem seX4_readEither : Cond.selects mX4_readEither.1.cls mX4_readEither.1 mX4_readEither.1 ∈ ev_T := (ev_pi 14 (by decide +kernel) rfl)
theorem lbX4_readBoth : ev_LB mX4_readBoth 1 := ⟨iw_WithoutE_Reader, (ev_t3 131 rfl rfl), by decide +kernel, by decide +kernel⟩
theorem imX4_readBoth : Cond.instanceMethod mX4_readBoth.1 ∈ ev_T := (ev_t3 130 rfl rfl)
theorem seX4_readBoth : Cond.selects mX4_readBoth.1.cls mX4_readBoth.1 mX4_readBoth.1 ∈ ev_T := (ev_pi 15 (by decide +kernel) rfl)
theorem lbX4_readAsk : ev_LB mX4_readAsk 1 := ⟨iw_WithoutE_Reader, (ev_t3 135 rfl rfl), by decide +kernel, by decide +kernel⟩
theorem imX4_readAsk : Cond.instanceMethod mX4_readAsk.1 ∈ ev_T := (ev_t3 134 rfl rfl)
theorem seX4_readAsk : Cond.selects mX4_readAsk.1.cls mX4_readAsk.1 mX4_readAsk.1 ∈ ev_T := (ev_pi 16 (by decide +kernel) rfl)
theorem lbX4_comparison : ev_LB mX4_comparison 0 := ⟨iw_WithoutE_Reader, (ev_t3 140 rfl rfl), by decide +kernel, by decide +kernel⟩
theorem imX4_comparison : Cond.instanceMethod mX4_comparison.1 ∈ ev_T := (ev_t3 139 rfl rfl)
theorem seX4_comparison : Cond.selects mX4_comparison.1.cls mX4_comparison.1 mX4_comparison.1 ∈ ev_T := (ev_pi 17 (by decide +kernel) rfl)
theorem lbX5_holesOf : ev_LB mX5_holesOf 2 := ⟨iw_WithoutE_Sound, (ev_t4 71 rfl rfl), by decide +kernel, by decide +kernel⟩
theorem imX5_holesOf : Cond.instanceMethod mX5_holesOf.1 ∈ ev_T := (ev_t4 69 rfl rfl)
theorem seX5_holesOf : Cond.selects mX5_holesOf.1.cls mX5_holesOf.1 mX5_holesOf.1 ∈ ev_T := (ev_t4 70 rfl rfl)
theorem lbX5_extraOf : ev_LB mX5_extraOf 2 := ⟨iw_WithoutE_Sound, (ev_t4 75 rfl rfl), by decide +kernel, by decide +kernel⟩
theorem imX5_extraOf : Cond.instanceMethod mX5_extraOf.1 ∈ ev_T := (ev_t4 73 rfl rfl)
theorem seX5_extraOf : Cond.selects mX5_extraOf.1.cls mX5_extraOf.1 mX5_extraOf.1 ∈ ev_T := (ev_t4 74 rfl rfl)
theorem lbX5_looksOf : ev_LB mX5_looksOf 2 := ⟨iw_WithoutE_Sound, (ev_t4 82 rfl rfl), by decide +kernel, by decide +kernel⟩
theorem imX5_looksOf : Cond.instanceMethod mX5_looksOf.1 ∈ ev_T := (ev_t4 81 rfl rfl)
theorem seX5_looksOf : Cond.selects mX5_looksOf.1.cls mX5_looksOf.1 mX5_looksOf.1 ∈ ev_T := (ev_pi 33 (by decide +kernel) rfl)
theorem lbX5_secondsOf : ev_LB mX5_secondsOf 2 := ⟨iw_WithoutE_Sound, (ev_t4 162 rfl rfl), by decide +kernel, by decide +kernel⟩
theorem imX5_secondsOf : Cond.instanceMethod mX5_secondsOf.1 ∈ ev_T := (ev_t4 160 rfl rfl)
theorem seX5_secondsOf : Cond.selects mX5_secondsOf.1.cls mX5_secondsOf.1 mX5_secondsOf.1 ∈ ev_T := (ev_t4 161 rfl rfl)
theorem lbX5_canBe : ev_LB mX5_canBe 2 := ⟨iw_WithoutE_Sound, (ev_t4 61 rfl rfl), by decide +kernel, by decide +kernel⟩
theorem imX5_canBe : Cond.instanceMethod mX5_canBe.1 ∈ ev_T := (ev_t4 59 rfl rfl)
theorem seX5_canBe : Cond.selects mX5_canBe.1.cls mX5_canBe.1 mX5_canBe.1 ∈ ev_T := (ev_t4 60 rfl rfl)
theorem lbX5_isMendable : ev_LB mX5_isMendable 2 := ⟨iw_WithoutE_Sound, (ev_t4 66 rfl rfl), by decide +kernel, by decide +kernel⟩
theorem imX5_isMendable : Cond.instanceMethod mX5_isMendable.1 ∈ ev_T := (ev_t4 64 rfl rfl)
theorem seX5_isMendable : Cond.selects mX5_isMendable.1.cls mX5_isMendable.1 mX5_isMendable.1 ∈ ev_T := (ev_t4 65 rfl rfl)
theorem lbX5_keyFor : ev_LB mX5_keyFor 3 := ⟨iw_WithoutE_Sound, (ev_t4 174 rfl rfl), by decide +kernel, by decide +kernel⟩
theorem imX5_keyFor : Cond.instanceMethod mX5_keyFor.1 ∈ ev_T := (ev_t4 172 rfl rfl)
theorem seX5_keyFor : Cond.selects mX5_keyFor.1.cls mX5_keyFor.1 mX5_keyFor.1 ∈ ev_T := (ev_t4 173 rfl rfl)
theorem lbX6_forget : ev_LB mX6_forget 0 := ⟨iw_WithoutE_Speech, (ev_t4 42 rfl rfl), by decide +kernel, by decide +kernel⟩
theorem imX6_forget : Cond.instanceMethod mX6_forget.1 ∈ ev_T := (ev_t4 40 rfl rfl)
theorem seX6_forget : Cond.selects mX6_forget.1.cls mX6_forget.1 mX6_forget.1 ∈ ev_T := (ev_t4 41 rfl rfl)
theorem lbX6_suppose : ev_LB mX6_suppose 2 := ⟨iw_WithoutE_Speech, (ev_t4 50 rfl rfl), by decide +kernel, by decide +kernel⟩
theorem imX6_suppose : Cond.instanceMethod mX6_suppose.1 ∈ ev_T := (ev_t4 48 rfl rfl)
theorem seX6_suppose : Cond.selects mX6_suppose.1.cls mX6_suppose.1 mX6_suppose.1 ∈ ev_T := (ev_t4 49 rfl rfl)
theorem lbX6_costOf : ev_LB mX6_costOf 1 := ⟨iw_WithoutE_Speech, (ev_t4 123 rfl rfl), by decide +kernel, by decide +kernel⟩
theorem imX6_costOf : Cond.instanceMethod mX6_costOf.1 ∈ ev_T := (ev_t4 121 rfl rfl)
theorem seX6_costOf : Cond.selects mX6_costOf.1.cls mX6_costOf.1 mX6_costOf.1 ∈ ev_T := (ev_t4 122 rfl rfl)
theorem lbX6_costUpTo : ev_LB mX6_costUpTo 3 := ⟨iw_WithoutE_Speech, (ev_t5 26 rfl rfl), by decide +kernel, by decide +kernel⟩
theorem imX6_costUpTo : Cond.instanceMethod mX6_costUpTo.1 ∈ ev_T := (ev_t5 24 rfl rfl)
theorem seX6_costUpTo : Cond.selects mX6_costUpTo.1.cls mX6_costUpTo.1 mX6_costUpTo.1 ∈ ev_T := (ev_t5 25 rfl rfl)
theorem lbX6_fillCosts : ev_LB mX6_fillCosts 3 := ⟨iw_WithoutE_Speech, (ev_t4 127 rfl rfl), by decide +kernel, by decide +kernel⟩
theorem imX6_fillCosts : Cond.instanceMethod mX6_fillCosts.1 ∈ ev_T := (ev_t4 126 rfl rfl)
theorem seX6_fillCosts : Cond.selects mX6_fillCosts.1.cls mX6_fillCosts.1 mX6_fillCosts.1 ∈ ev_T := (ev_pi 38 (by decide +kernel) rfl)
theorem lbX6_seeCosts : ev_LB mX6_seeCosts 1 := ⟨iw_WithoutE_Speech, (ev_t4 131 rfl rfl), by decide +kernel, by decide +kernel⟩
theorem imX6_seeCosts : Cond.instanceMethod mX6_seeCosts.1 ∈ ev_T := (ev_t4 130 rfl rfl)
theorem seX6_seeCosts : Cond.selects mX6_seeCosts.1.cls mX6_seeCosts.1 mX6_seeCosts.1 ∈ ev_T := (ev_pi 39 (by decide +kernel) rfl)
theorem lbX6_leastBeside : ev_LB mX6_leastBeside 2 := ⟨iw_WithoutE_Speech, (ev_t4 145 rfl rfl), by decide +kernel, by decide +kernel⟩
theorem imX6_leastBeside : Cond.instanceMethod mX6_leastBeside.1 ∈ ev_T := (ev_t4 144 rfl rfl)
theorem seX6_leastBeside : Cond.selects mX6_leastBeside.1.cls mX6_leastBeside.1 mX6_leastBeside.1 ∈ ev_T := (ev_pi 40 (by decide +kernel) rfl)
theorem lbX6_costBetween : ev_LB mX6_costBetween 2 := ⟨iw_WithoutE_Speech, (ev_t4 158 rfl rfl), by decide +kernel, by decide +kernel⟩
theorem imX6_costBetween : Cond.instanceMethod mX6_costBetween.1 ∈ ev_T := (ev_t4 157 rfl rfl)
theorem seX6_costBetween : Cond.selects mX6_costBetween.1.cls mX6_costBetween.1 mX6_costBetween.1 ∈ ev_T := (ev_pi 42 (by decide +kernel) rfl)
theorem lbX6_speak : ev_LB mX6_speak 1 := ⟨iw_WithoutE_Speech, (ev_t4 119 rfl rfl), by decide +kernel, by decide +kernel⟩
theorem imX6_speak : Cond.instanceMethod mX6_speak.1 ∈ ev_T := (ev_t4 117 rfl rfl)
theorem seX6_speak : Cond.selects mX6_speak.1.cls mX6_speak.1 mX6_speak.1 ∈ ev_T := (ev_t4 118 rfl rfl)
theorem lbX6_lowestBehind : ev_LB mX6_lowestBehind 2 := ⟨iw_WithoutE_Speech, (ev_t4 154 rfl rfl), by decide +kernel, by decide +kernel⟩
theorem imX6_lowestBehind : Cond.instanceMethod mX6_lowestBehind.1 ∈ ev_T := (ev_t4 153 rfl rfl)
theorem seX6_lowestBehind : Cond.selects mX6_lowestBehind.1.cls mX6_lowestBehind.1 mX6_lowestBehind.1 ∈ ev_T := (ev_pi 41 (by decide +kernel) rfl)
theorem lbX6_press : ev_LB mX6_press 1 := ⟨iw_WithoutE_Speech, (ev_t4 170 rfl rfl), by decide +kernel, by decide +kernel⟩
theorem imX6_press : Cond.instanceMethod mX6_press.1 ∈ ev_T := (ev_t4 168 rfl rfl)
theorem seX6_press : Cond.selects mX6_press.1.cls mX6_press.1 mX6_press.1 ∈ ev_T := (ev_t4 169 rfl rfl)
theorem lbX7_put : ev_LB mX7_put 1 := ⟨iw_WithoutE_Tape, (ev_t2 225 rfl rfl), by decide +kernel, by decide +kernel⟩
theorem imX7_put : Cond.instanceMethod mX7_put.1 ∈ ev_T := (ev_t2 223 rfl rfl)
theorem seX7_put : Cond.selects mX7_put.1.cls mX7_put.1 mX7_put.1 ∈ ev_T := (ev_t2 224 rfl rfl)
theorem lbX7_spells : ev_LB mX7_spells 1 := ⟨iw_WithoutE_Tape, (ev_t4 204 rfl rfl), by decide +kernel, by decide +kernel⟩
theorem imX7_spells : Cond.instanceMethod mX7_spells.1 ∈ ev_T := (ev_t4 202 rfl rfl)
theorem seX7_spells : Cond.selects mX7_spells.1.cls mX7_spells.1 mX7_spells.1 ∈ ev_T := (ev_t4 203 rfl rfl)
theorem lbX8_empty : ev_LB mX8_empty 0 := ⟨iw_WithoutE_Text, (ev_t3 1 rfl rfl), by decide +kernel, by decide +kernel⟩
theorem imX8_empty : Cond.instanceMethod mX8_empty.1 ∈ ev_T := (ev_t2 239 rfl rfl)
theorem seX8_empty : Cond.selects mX8_empty.1.cls mX8_empty.1 mX8_empty.1 ∈ ev_T := (ev_t3 0 rfl rfl)
theorem lbX8_begin : ev_LB mX8_begin 1 := ⟨iw_WithoutE_Text, (ev_t3 74 rfl rfl), by decide +kernel, by decide +kernel⟩
theorem imX8_begin : Cond.instanceMethod mX8_begin.1 ∈ ev_T := (ev_t3 72 rfl rfl)
theorem seX8_begin : Cond.selects mX8_begin.1.cls mX8_begin.1 mX8_begin.1 ∈ ev_T := (ev_t3 73 rfl rfl)
theorem lbX8_put : ev_LB mX8_put 1 := ⟨iw_WithoutE_Text, (ev_t3 101 rfl rfl), by decide +kernel, by decide +kernel⟩
theorem imX8_put : Cond.instanceMethod mX8_put.1 ∈ ev_T := (ev_t3 99 rfl rfl)
theorem seX8_put : Cond.selects mX8_put.1.cls mX8_put.1 mX8_put.1 ∈ ev_T := (ev_t3 100 rfl rfl)
theorem lbX8_set : ev_LB mX8_set 2 := ⟨iw_WithoutE_Text, (ev_t3 152 rfl rfl), by decide +kernel, by decide +kernel⟩
theorem imX8_set : Cond.instanceMethod mX8_set.1 ∈ ev_T := (ev_t3 150 rfl rfl)
theorem seX8_set : Cond.selects mX8_set.1.cls mX8_set.1 mX8_set.1 ∈ ev_T := (ev_t3 151 rfl rfl)
theorem lbX8_part : ev_LB mX8_part 2 := ⟨iw_WithoutE_Text, (ev_t3 217 rfl rfl), by decide +kernel, by decide +kernel⟩
theorem imX8_part : Cond.instanceMethod mX8_part.1 ∈ ev_T := (ev_t3 215 rfl rfl)
theorem seX8_part : Cond.selects mX8_part.1.cls mX8_part.1 mX8_part.1 ∈ ev_T := (ev_t3 216 rfl rfl)
theorem lbX9_copyOf : ev_LB mX9_copyOf 1 := ⟨iw_WithoutE_Typewriter, (ev_t5 236 rfl rfl), by decide +kernel, by decide +kernel⟩
theorem imX9_copyOf : Cond.instanceMethod mX9_copyOf.1 ∈ ev_T := (ev_t5 234 rfl rfl)
theorem seX9_copyOf : Cond.selects mX9_copyOf.1.cls mX9_copyOf.1 mX9_copyOf.1 ∈ ev_T := (ev_t5 235 rfl rfl)
theorem lbX9_draw : ev_LB mX9_draw 1 := ⟨iw_WithoutE_Typewriter, (ev_t4 191 rfl rfl), by decide +kernel, by decide +kernel⟩
theorem imX9_draw : Cond.instanceMethod mX9_draw.1 ∈ ev_T := (ev_t4 189 rfl rfl)
theorem seX9_draw : Cond.selects mX9_draw.1.cls mX9_draw.1 mX9_draw.1 ∈ ev_T := (ev_t4 190 rfl rfl)
theorem lbX9_note : ev_LB mX9_note 3 := ⟨iw_WithoutE_Typewriter, (ev_t4 179 rfl rfl), by decide +kernel, by decide +kernel⟩
theorem imX9_note : Cond.instanceMethod mX9_note.1 ∈ ev_T := (ev_t4 177 rfl rfl)
theorem seX9_note : Cond.selects mX9_note.1.cls mX9_note.1 mX9_note.1 ∈ ev_T := (ev_t4 178 rfl rfl)
theorem lbX9_linesShown : ev_LB mX9_linesShown 0 := ⟨iw_WithoutE_Typewriter, (ev_t5 222 rfl rfl), by decide +kernel, by decide +kernel⟩
theorem imX9_linesShown : Cond.instanceMethod mX9_linesShown.1 ∈ ev_T := (ev_t5 220 rfl rfl)
theorem seX9_linesShown : Cond.selects mX9_linesShown.1.cls mX9_linesShown.1 mX9_linesShown.1 ∈ ev_T := (ev_t5 221 rfl rfl)
theorem lbX9_linePart : ev_LB mX9_linePart 2 := ⟨iw_WithoutE_Typewriter, (ev_t5 227 rfl rfl), by decide +kernel, by decide +kernel⟩
theorem imX9_linePart : Cond.instanceMethod mX9_linePart.1 ∈ ev_T := (ev_t5 225 rfl rfl)
theorem seX9_linePart : Cond.selects mX9_linePart.1.cls mX9_linePart.1 mX9_linePart.1 ∈ ev_T := (ev_t5 226 rfl rfl)
theorem lbX9_markStep : ev_LB mX9_markStep 0 := ⟨iw_WithoutE_Typewriter, (ev_t4 15 rfl rfl), by decide +kernel, by decide +kernel⟩
theorem imX9_markStep : Cond.instanceMethod mX9_markStep.1 ∈ ev_T := (ev_t4 13 rfl rfl)
theorem seX9_markStep : Cond.selects mX9_markStep.1.cls mX9_markStep.1 mX9_markStep.1 ∈ ev_T := (ev_t4 14 rfl rfl)
theorem lbX9_takeBack : ev_LB mX9_takeBack 0 := ⟨iw_WithoutE_Typewriter, (ev_t4 229 rfl rfl), by decide +kernel, by decide +kernel⟩
theorem imX9_takeBack : Cond.instanceMethod mX9_takeBack.1 ∈ ev_T := (ev_t4 227 rfl rfl)
theorem seX9_takeBack : Cond.selects mX9_takeBack.1.cls mX9_takeBack.1 mX9_takeBack.1 ∈ ev_T := (ev_t4 228 rfl rfl)
theorem lbX10_feed : ev_LB mX10_feed 5 := ⟨iw_WithoutE, (ev_t2 221 rfl rfl), by decide +kernel, by decide +kernel⟩
theorem imX10_feed : Cond.instanceMethod mX10_feed.1 ∈ ev_T := (ev_t2 219 rfl rfl)
theorem seX10_feed : Cond.selects mX10_feed.1.cls mX10_feed.1 mX10_feed.1 ∈ ev_T := (ev_t2 220 rfl rfl)
theorem lbX10_end : ev_LB mX10_end 1 := ⟨iw_WithoutE, (ev_t2 229 rfl rfl), by decide +kernel, by decide +kernel⟩
theorem imX10_end : Cond.instanceMethod mX10_end.1 ∈ ev_T := (ev_t2 227 rfl rfl)
theorem seX10_end : Cond.selects mX10_end.1.cls mX10_end.1 mX10_end.1 ∈ ev_T := (ev_t2 228 rfl rfl)
theorem lbX10_text : ev_LB mX10_text 0 := ⟨iw_WithoutE, (ev_t2 233 rfl rfl), by decide +kernel, by decide +kernel⟩
theorem imX10_text : Cond.instanceMethod mX10_text.1 ∈ ev_T := (ev_t2 231 rfl rfl)
theorem seX10_text : Cond.selects mX10_text.1.cls mX10_text.1 mX10_text.1 ∈ ev_T := (ev_t2 232 rfl rfl)
theorem lbX10_fault : ev_LB mX10_fault 1 := ⟨iw_WithoutE, (ev_t3 197 rfl rfl), by decide +kernel, by decide +kernel⟩
theorem imX10_fault : Cond.instanceMethod mX10_fault.1 ∈ ev_T := (ev_t3 195 rfl rfl)
theorem seX10_fault : Cond.selects mX10_fault.1.cls mX10_fault.1 mX10_fault.1 ∈ ev_T := (ev_t3 196 rfl rfl)
theorem lbX10_by : ev_LB mX10_by 1 := ⟨iw_WithoutE, (ev_t3 201 rfl rfl), by decide +kernel, by decide +kernel⟩
theorem imX10_by : Cond.instanceMethod mX10_by.1 ∈ ev_T := (ev_t3 199 rfl rfl)
theorem seX10_by : Cond.selects mX10_by.1.cls mX10_by.1 mX10_by.1 ∈ ev_T := (ev_t3 200 rfl rfl)
theorem lbX10_played : ev_LB mX10_played 1 := ⟨iw_WithoutE, (ev_t3 209 rfl rfl), by decide +kernel, by decide +kernel⟩
theorem imX10_played : Cond.instanceMethod mX10_played.1 ∈ ev_T := (ev_t3 207 rfl rfl)
theorem seX10_played : Cond.selects mX10_played.1.cls mX10_played.1 mX10_played.1 ∈ ev_T := (ev_t3 208 rfl rfl)
theorem lbX10_hasText : ev_LB mX10_hasText 1 := ⟨iw_WithoutE, (ev_t3 205 rfl rfl), by decide +kernel, by decide +kernel⟩
theorem imX10_hasText : Cond.instanceMethod mX10_hasText.1 ∈ ev_T := (ev_t3 204 rfl rfl)
theorem seX10_hasText : Cond.selects mX10_hasText.1.cls mX10_hasText.1 mX10_hasText.1 ∈ ev_T := (ev_pi 26 (by decide +kernel) rfl)
theorem lbX10_playClause : ev_LB mX10_playClause 2 := ⟨iw_WithoutE, (ev_t3 213 rfl rfl), by decide +kernel, by decide +kernel⟩
theorem imX10_playClause : Cond.instanceMethod mX10_playClause.1 ∈ ev_T := (ev_t3 212 rfl rfl)
theorem seX10_playClause : Cond.selects mX10_playClause.1.cls mX10_playClause.1 mX10_playClause.1 ∈ ev_T := (ev_pi 27 (by decide +kernel) rfl)
theorem lbX10_word : ev_LB mX10_word 3 := ⟨iw_WithoutE, (ev_t4 200 rfl rfl), by decide +kernel, by decide +kernel⟩
theorem imX10_word : Cond.instanceMethod mX10_word.1 ∈ ev_T := (ev_t4 198 rfl rfl)
theorem seX10_word : Cond.selects mX10_word.1.cls mX10_word.1 mX10_word.1 ∈ ev_T := (ev_t4 199 rfl rfl)
theorem lbX10_turn : ev_LB mX10_turn 1 := ⟨iw_WithoutE, (ev_t4 22 rfl rfl), by decide +kernel, by decide +kernel⟩
theorem imX10_turn : Cond.instanceMethod mX10_turn.1 ∈ ev_T := (ev_t4 20 rfl rfl)
theorem seX10_turn : Cond.selects mX10_turn.1.cls mX10_turn.1 mX10_turn.1 ∈ ev_T := (ev_t4 21 rfl rfl)
theorem lbX10_sense : ev_LB mX10_sense 6 := ⟨iw_WithoutE, (ev_t4 213 rfl rfl), by decide +kernel, by decide +kernel⟩
theorem imX10_sense : Cond.instanceMethod mX10_sense.1 ∈ ev_T := (ev_t4 211 rfl rfl)
theorem seX10_sense : Cond.selects mX10_sense.1.cls mX10_sense.1 mX10_sense.1 ∈ ev_T := (ev_t4 212 rfl rfl)
theorem lbX10_made : ev_LB mX10_made 3 := ⟨iw_WithoutE, (ev_t4 1 rfl rfl), by decide +kernel, by decide +kernel⟩
theorem imX10_made : Cond.instanceMethod mX10_made.1 ∈ ev_T := (ev_t3 239 rfl rfl)
theorem seX10_made : Cond.selects mX10_made.1.cls mX10_made.1 mX10_made.1 ∈ ev_T := (ev_t4 0 rfl rfl)
theorem lbX10_key : ev_LB mX10_key 1 := ⟨iw_WithoutE, (ev_t4 8 rfl rfl), by decide +kernel, by decide +kernel⟩
theorem imX10_key : Cond.instanceMethod mX10_key.1 ∈ ev_T := (ev_t4 6 rfl rfl)
theorem seX10_key : Cond.selects mX10_key.1.cls mX10_key.1 mX10_key.1 ∈ ev_T := (ev_t4 7 rfl rfl)
theorem lbX10_write : ev_LB mX10_write 1 := ⟨iw_WithoutE, (ev_t4 30 rfl rfl), by decide +kernel, by decide +kernel⟩
theorem imX10_write : Cond.instanceMethod mX10_write.1 ∈ ev_T := (ev_t4 28 rfl rfl)
theorem seX10_write : Cond.selects mX10_write.1.cls mX10_write.1 mX10_write.1 ∈ ev_T := (ev_t4 29 rfl rfl)
theorem lbX10_week : ev_LB mX10_week 1 := ⟨iw_WithoutE, (ev_t4 220 rfl rfl), by decide +kernel, by decide +kernel⟩
theorem imX10_week : Cond.instanceMethod mX10_week.1 ∈ ev_T := (ev_t4 218 rfl rfl)
theorem seX10_week : Cond.selects mX10_week.1.cls mX10_week.1 mX10_week.1 ∈ ev_T := (ev_t4 219 rfl rfl)
theorem lbX10_undo : ev_LB mX10_undo 0 := ⟨iw_WithoutE, (ev_t4 225 rfl rfl), by decide +kernel, by decide +kernel⟩
theorem imX10_undo : Cond.instanceMethod mX10_undo.1 ∈ ev_T := (ev_t4 223 rfl rfl)
theorem seX10_undo : Cond.selects mX10_undo.1.cls mX10_undo.1 mX10_undo.1 ∈ ev_T := (ev_t4 224 rfl rfl)
theorem lbX10_refuse : ev_LB mX10_refuse 1 := ⟨iw_WithoutE, (ev_t3 225 rfl rfl), by decide +kernel, by decide +kernel⟩
theorem imX10_refuse : Cond.instanceMethod mX10_refuse.1 ∈ ev_T := (ev_t3 224 rfl rfl)
theorem seX10_refuse : Cond.selects mX10_refuse.1.cls mX10_refuse.1 mX10_refuse.1 ∈ ev_T := (ev_pi 29 (by decide +kernel) rfl)
theorem lbX10_addWord : ev_LB mX10_addWord 6 := ⟨iw_WithoutE, (ev_t3 221 rfl rfl), by decide +kernel, by decide +kernel⟩
theorem imX10_addWord : Cond.instanceMethod mX10_addWord.1 ∈ ev_T := (ev_t3 220 rfl rfl)
theorem seX10_addWord : Cond.selects mX10_addWord.1.cls mX10_addWord.1 mX10_addWord.1 ∈ ev_T := (ev_pi 28 (by decide +kernel) rfl)
theorem lbX10_addSentence : ev_LB mX10_addSentence 3 := ⟨iw_WithoutE, (ev_t3 233 rfl rfl), by decide +kernel, by decide +kernel⟩
theorem imX10_addSentence : Cond.instanceMethod mX10_addSentence.1 ∈ ev_T := (ev_t3 232 rfl rfl)
theorem seX10_addSentence : Cond.selects mX10_addSentence.1.cls mX10_addSentence.1 mX10_addSentence.1 ∈ ev_T := (ev_pi 30 (by decide +kernel) rfl)
theorem lbX10_typeSpoken : ev_LB mX10_typeSpoken 1 := ⟨iw_WithoutE, (ev_t4 166 rfl rfl), by decide +kernel, by decide +kernel⟩
theorem imX10_typeSpoken : Cond.instanceMethod mX10_typeSpoken.1 ∈ ev_T := (ev_t4 165 rfl rfl)
theorem seX10_typeSpoken : Cond.selects mX10_typeSpoken.1.cls mX10_typeSpoken.1 mX10_typeSpoken.1 ∈ ev_T := (ev_pi 43 (by decide +kernel) rfl)
theorem lbX10_passDays : ev_LB mX10_passDays 1 := ⟨iw_WithoutE, (ev_t4 183 rfl rfl), by decide +kernel, by decide +kernel⟩
theorem imX10_passDays : Cond.instanceMethod mX10_passDays.1 ∈ ev_T := (ev_t4 182 rfl rfl)
theorem seX10_passDays : Cond.selects mX10_passDays.1.cls mX10_passDays.1 mX10_passDays.1 ∈ ev_T := (ev_pi 44 (by decide +kernel) rfl)
theorem lbX10_wearSomeKey : ev_LB mX10_wearSomeKey 0 := ⟨iw_WithoutE, (ev_t4 187 rfl rfl), by decide +kernel, by decide +kernel⟩
theorem imX10_wearSomeKey : Cond.instanceMethod mX10_wearSomeKey.1 ∈ ev_T := (ev_t4 186 rfl rfl)
theorem seX10_wearSomeKey : Cond.selects mX10_wearSomeKey.1.cls mX10_wearSomeKey.1 mX10_wearSomeKey.1 ∈ ev_T := (ev_pi 45 (by decide +kernel) rfl)
theorem lbX10_told : ev_LB mX10_told 2 := ⟨iw_WithoutE, (ev_t4 233 rfl rfl), by decide +kernel, by decide +kernel⟩
theorem imX10_told : Cond.instanceMethod mX10_told.1 ∈ ev_T := (ev_t4 231 rfl rfl)
theorem seX10_told : Cond.selects mX10_told.1.cls mX10_told.1 mX10_told.1 ∈ ev_T := (ev_t4 232 rfl rfl)
theorem lbX10_stiff : ev_LB mX10_stiff 1 := ⟨iw_WithoutE, (ev_t5 1 rfl rfl), by decide +kernel, by decide +kernel⟩
theorem imX10_stiff : Cond.instanceMethod mX10_stiff.1 ∈ ev_T := (ev_t4 239 rfl rfl)
theorem seX10_stiff : Cond.selects mX10_stiff.1.cls mX10_stiff.1 mX10_stiff.1 ∈ ev_T := (ev_t5 0 rfl rfl)
theorem lbX10_least : ev_LB mX10_least 2 := ⟨iw_WithoutE, (ev_t5 10 rfl rfl), by decide +kernel, by decide +kernel⟩
theorem imX10_least : Cond.instanceMethod mX10_least.1 ∈ ev_T := (ev_t5 8 rfl rfl)
theorem seX10_least : Cond.selects mX10_least.1.cls mX10_least.1 mX10_least.1 ∈ ev_T := (ev_t5 9 rfl rfl)
theorem lbX10_sentence : ev_LB mX10_sentence 2 := ⟨iw_WithoutE, (ev_t5 18 rfl rfl), by decide +kernel, by decide +kernel⟩
theorem imX10_sentence : Cond.instanceMethod mX10_sentence.1 ∈ ev_T := (ev_t5 16 rfl rfl)
theorem seX10_sentence : Cond.selects mX10_sentence.1.cls mX10_sentence.1 mX10_sentence.1 ∈ ev_T := (ev_t5 17 rfl rfl)
theorem lbX10_states : ev_LB mX10_states 3 := ⟨iw_WithoutE, (ev_t5 22 rfl rfl), by decide +kernel, by decide +kernel⟩
theorem imX10_states : Cond.instanceMethod mX10_states.1 ∈ ev_T := (ev_t5 20 rfl rfl)
theorem seX10_states : Cond.selects mX10_states.1.cls mX10_states.1 mX10_states.1 ∈ ev_T := (ev_t5 21 rfl rfl)
theorem lbX10_none : ev_LB mX10_none 0 := ⟨iw_WithoutE, (ev_t5 31 rfl rfl), by decide +kernel, by decide +kernel⟩
theorem imX10_none : Cond.instanceMethod mX10_none.1 ∈ ev_T := (ev_t5 29 rfl rfl)
theorem seX10_none : Cond.selects mX10_none.1.cls mX10_none.1 mX10_none.1 ∈ ev_T := (ev_t5 30 rfl rfl)
theorem lbX10_stiffnessBy : ev_LB mX10_stiffnessBy 2 := ⟨iw_WithoutE, (ev_t5 5 rfl rfl), by decide +kernel, by decide +kernel⟩
theorem imX10_stiffnessBy : Cond.instanceMethod mX10_stiffnessBy.1 ∈ ev_T := (ev_t5 4 rfl rfl)
theorem seX10_stiffnessBy : Cond.selects mX10_stiffnessBy.1.cls mX10_stiffnessBy.1 mX10_stiffnessBy.1 ∈ ev_T := (ev_pi 46 (by decide +kernel) rfl)
theorem lbX10_ruling : ev_LB mX10_ruling 0 := ⟨iw_WithoutE, (ev_t4 46 rfl rfl), by decide +kernel, by decide +kernel⟩
theorem imX10_ruling : Cond.instanceMethod mX10_ruling.1 ∈ ev_T := (ev_t4 45 rfl rfl)
theorem seX10_ruling : Cond.selects mX10_ruling.1.cls mX10_ruling.1 mX10_ruling.1 ∈ ev_T := (ev_pi 32 (by decide +kernel) rfl)
theorem lbX10_hearNow : ev_LB mX10_hearNow 0 := ⟨iw_WithoutE, (ev_t4 38 rfl rfl), by decide +kernel, by decide +kernel⟩
theorem imX10_hearNow : Cond.instanceMethod mX10_hearNow.1 ∈ ev_T := (ev_t4 37 rfl rfl)
theorem seX10_hearNow : Cond.selects mX10_hearNow.1.cls mX10_hearNow.1 mX10_hearNow.1 ∈ ev_T := (ev_pi 31 (by decide +kernel) rfl)
theorem lbX10_speakNow : ev_LB mX10_speakNow 1 := ⟨iw_WithoutE, (ev_t5 14 rfl rfl), by decide +kernel, by decide +kernel⟩
theorem imX10_speakNow : Cond.instanceMethod mX10_speakNow.1 ∈ ev_T := (ev_t5 13 rfl rfl)
theorem seX10_speakNow : Cond.selects mX10_speakNow.1.cls mX10_speakNow.1 mX10_speakNow.1 ∈ ev_T := (ev_pi 47 (by decide +kernel) rfl)
theorem lbX10_worst : ev_LB mX10_worst 0 := ⟨iw_WithoutE, (ev_t5 36 rfl rfl), by decide +kernel, by decide +kernel⟩
theorem imX10_worst : Cond.instanceMethod mX10_worst.1 ∈ ev_T := (ev_t5 34 rfl rfl)
theorem seX10_worst : Cond.selects mX10_worst.1.cls mX10_worst.1 mX10_worst.1 ∈ ev_T := (ev_t5 35 rfl rfl)
theorem lbX10_few : ev_LB mX10_few 1 := ⟨iw_WithoutE, (ev_t5 44 rfl rfl), by decide +kernel, by decide +kernel⟩
theorem imX10_few : Cond.instanceMethod mX10_few.1 ∈ ev_T := (ev_t5 42 rfl rfl)
theorem seX10_few : Cond.selects mX10_few.1.cls mX10_few.1 mX10_few.1 ∈ ev_T := (ev_t5 43 rfl rfl)
theorem lbX10_totalWith : ev_LB mX10_totalWith 1 := ⟨iw_WithoutE, (ev_t5 40 rfl rfl), by decide +kernel, by decide +kernel⟩
theorem imX10_totalWith : Cond.instanceMethod mX10_totalWith.1 ∈ ev_T := (ev_t5 39 rfl rfl)
theorem seX10_totalWith : Cond.selects mX10_totalWith.1.cls mX10_totalWith.1 mX10_totalWith.1 ∈ ev_T := (ev_pi 48 (by decide +kernel) rfl)
theorem lbX10_spare : ev_LB mX10_spare 0 := ⟨iw_WithoutE, (ev_t5 48 rfl rfl), by decide +kernel, by decide +kernel⟩
theorem imX10_spare : Cond.instanceMethod mX10_spare.1 ∈ ev_T := (ev_t5 46 rfl rfl)
theorem seX10_spare : Cond.selects mX10_spare.1.cls mX10_spare.1 mX10_spare.1 ∈ ev_T := (ev_t5 47 rfl rfl)
theorem lbX10_now : ev_LB mX10_now 1 := ⟨iw_WithoutE, (ev_t5 65 rfl rfl), by decide +kernel, by decide +kernel⟩
theorem imX10_now : Cond.instanceMethod mX10_now.1 ∈ ev_T := (ev_t5 63 rfl rfl)
theorem seX10_now : Cond.selects mX10_now.1.cls mX10_now.1 mX10_now.1 ∈ ev_T := (ev_t5 64 rfl rfl)
theorem lbX10_exact : ev_LB mX10_exact 1 := ⟨iw_WithoutE, (ev_t5 69 rfl rfl), by decide +kernel, by decide +kernel⟩
theorem imX10_exact : Cond.instanceMethod mX10_exact.1 ∈ ev_T := (ev_t5 67 rfl rfl)
theorem seX10_exact : Cond.selects mX10_exact.1.cls mX10_exact.1 mX10_exact.1 ∈ ev_T := (ev_t5 68 rfl rfl)
theorem lbX10_countPresses : ev_LB mX10_countPresses 0 := ⟨iw_WithoutE, (ev_t5 52 rfl rfl), by decide +kernel, by decide +kernel⟩
theorem imX10_countPresses : Cond.instanceMethod mX10_countPresses.1 ∈ ev_T := (ev_t5 51 rfl rfl)
theorem seX10_countPresses : Cond.selects mX10_countPresses.1.cls mX10_countPresses.1 mX10_countPresses.1 ∈ ev_T := (ev_pi 49 (by decide +kernel) rfl)
theorem lbX10_keyOfRank : ev_LB mX10_keyOfRank 1 := ⟨iw_WithoutE, (ev_t5 57 rfl rfl), by decide +kernel, by decide +kernel⟩
theorem imX10_keyOfRank : Cond.instanceMethod mX10_keyOfRank.1 ∈ ev_T := (ev_t5 56 rfl rfl)
theorem seX10_keyOfRank : Cond.selects mX10_keyOfRank.1.cls mX10_keyOfRank.1 mX10_keyOfRank.1 ∈ ev_T := (ev_pi 50 (by decide +kernel) rfl)
theorem lbX10_keysAheadOf : ev_LB mX10_keysAheadOf 1 := ⟨iw_WithoutE, (ev_t5 61 rfl rfl), by decide +kernel, by decide +kernel⟩
theorem imX10_keysAheadOf : Cond.instanceMethod mX10_keysAheadOf.1 ∈ ev_T := (ev_t5 60 rfl rfl)
theorem seX10_keysAheadOf : Cond.selects mX10_keysAheadOf.1.cls mX10_keysAheadOf.1 mX10_keysAheadOf.1 ∈ ev_T := (ev_pi 51 (by decide +kernel) rfl)
theorem lbX10_longer : ev_LB mX10_longer 0 := ⟨iw_WithoutE, (ev_t5 73 rfl rfl), by decide +kernel, by decide +kernel⟩
theorem imX10_longer : Cond.instanceMethod mX10_longer.1 ∈ ev_T := (ev_t5 71 rfl rfl)
theorem seX10_longer : Cond.selects mX10_longer.1.cls mX10_longer.1 mX10_longer.1 ∈ ev_T := (ev_t5 72 rfl rfl)
theorem lbX10_law : ev_LB mX10_law 0 := ⟨iw_WithoutE, (ev_t5 77 rfl rfl), by decide +kernel, by decide +kernel⟩
theorem imX10_law : Cond.instanceMethod mX10_law.1 ∈ ev_T := (ev_t5 75 rfl rfl)
theorem seX10_law : Cond.selects mX10_law.1.cls mX10_law.1 mX10_law.1 ∈ ev_T := (ev_t5 76 rfl rfl)
theorem lbX10_agreesWithHeard : ev_LB mX10_agreesWithHeard 1 := ⟨iw_WithoutE, (ev_t5 81 rfl rfl), by decide +kernel, by decide +kernel⟩
theorem imX10_agreesWithHeard : Cond.instanceMethod mX10_agreesWithHeard.1 ∈ ev_T := (ev_t5 80 rfl rfl)
theorem seX10_agreesWithHeard : Cond.selects mX10_agreesWithHeard.1.cls mX10_agreesWithHeard.1 mX10_agreesWithHeard.1 ∈ ev_T := (ev_pi 52 (by decide +kernel) rfl)
theorem lbX10_stiffs : ev_LB mX10_stiffs 2 := ⟨iw_WithoutE, (ev_t5 85 rfl rfl), by decide +kernel, by decide +kernel⟩
theorem imX10_stiffs : Cond.instanceMethod mX10_stiffs.1 ∈ ev_T := (ev_t5 83 rfl rfl)
theorem seX10_stiffs : Cond.selects mX10_stiffs.1.cls mX10_stiffs.1 mX10_stiffs.1 ∈ ev_T := (ev_t5 84 rfl rfl)
theorem lbX10_notices : ev_LB mX10_notices 2 := ⟨iw_WithoutE, (ev_t5 89 rfl rfl), by decide +kernel, by decide +kernel⟩
theorem imX10_notices : Cond.instanceMethod mX10_notices.1 ∈ ev_T := (ev_t5 87 rfl rfl)
theorem seX10_notices : Cond.selects mX10_notices.1.cls mX10_notices.1 mX10_notices.1 ∈ ev_T := (ev_t5 88 rfl rfl)
theorem lbX10_lines : ev_LB mX10_lines 1 := ⟨iw_WithoutE, (ev_t5 116 rfl rfl), by decide +kernel, by decide +kernel⟩
theorem imX10_lines : Cond.instanceMethod mX10_lines.1 ∈ ev_T := (ev_t5 114 rfl rfl)
theorem seX10_lines : Cond.selects mX10_lines.1.cls mX10_lines.1 mX10_lines.1 ∈ ev_T := (ev_t5 115 rfl rfl)
theorem lbX10_held : ev_LB mX10_held 0 := ⟨iw_WithoutE, (ev_t5 121 rfl rfl), by decide +kernel, by decide +kernel⟩
theorem imX10_held : Cond.instanceMethod mX10_held.1 ∈ ev_T := (ev_t5 119 rfl rfl)
theorem seX10_held : Cond.selects mX10_held.1.cls mX10_held.1 mX10_held.1 ∈ ev_T := (ev_t5 120 rfl rfl)
theorem lbX10_noticeOdds : ev_LB mX10_noticeOdds 1 := ⟨iw_WithoutE, (ev_t5 98 rfl rfl), by decide +kernel, by decide +kernel⟩
theorem imX10_noticeOdds : Cond.instanceMethod mX10_noticeOdds.1 ∈ ev_T := (ev_t5 97 rfl rfl)
theorem seX10_noticeOdds : Cond.selects mX10_noticeOdds.1.cls mX10_noticeOdds.1 mX10_noticeOdds.1 ∈ ev_T := (ev_pi 54 (by decide +kernel) rfl)
theorem lbX10_waysUnnoticed : ev_LB mX10_waysUnnoticed 1 := ⟨iw_WithoutE, (ev_t5 94 rfl rfl), by decide +kernel, by decide +kernel⟩
theorem imX10_waysUnnoticed : Cond.instanceMethod mX10_waysUnnoticed.1 ∈ ev_T := (ev_t5 93 rfl rfl)
theorem seX10_waysUnnoticed : Cond.selects mX10_waysUnnoticed.1.cls mX10_waysUnnoticed.1 mX10_waysUnnoticed.1 ∈ ev_T := (ev_pi 53 (by decide +kernel) rfl)
theorem lbX10_waysInAll : ev_LB mX10_waysInAll 1 := ⟨iw_WithoutE, (ev_t5 105 rfl rfl), by decide +kernel, by decide +kernel⟩
theorem stX10_waysInAll : Cond.static mX10_waysInAll.1 ∈ ev_T := (ev_t5 104 rfl rfl)
theorem lbX10_sharedDivisor : ev_LB mX10_sharedDivisor 2 := ⟨iw_WithoutE, (ev_t5 109 rfl rfl), by decide +kernel, by decide +kernel⟩
theorem stX10_sharedDivisor : Cond.static mX10_sharedDivisor.1 ∈ ev_T := (ev_t5 108 rfl rfl)
theorem lbX10_page : ev_LB mX10_page 1 := ⟨iw_WithoutE, (ev_t5 125 rfl rfl), by decide +kernel, by decide +kernel⟩
theorem imX10_page : Cond.instanceMethod mX10_page.1 ∈ ev_T := (ev_t5 123 rfl rfl)
theorem seX10_page : Cond.selects mX10_page.1.cls mX10_page.1 mX10_page.1 ∈ ev_T := (ev_t5 124 rfl rfl)
theorem lbX10_wrote : ev_LB mX10_wrote 1 := ⟨iw_WithoutE, (ev_t5 129 rfl rfl), by decide +kernel, by decide +kernel⟩
theorem imX10_wrote : Cond.instanceMethod mX10_wrote.1 ∈ ev_T := (ev_t5 127 rfl rfl)
theorem seX10_wrote : Cond.selects mX10_wrote.1.cls mX10_wrote.1 mX10_wrote.1 ∈ ev_T := (ev_t5 128 rfl rfl)
theorem lbX10_fewest : ev_LB mX10_fewest 0 := ⟨iw_WithoutE, (ev_t5 142 rfl rfl), by decide +kernel, by decide +kernel⟩
theorem imX10_fewest : Cond.instanceMethod mX10_fewest.1 ∈ ev_T := (ev_t5 140 rfl rfl)
theorem seX10_fewest : Cond.selects mX10_fewest.1.cls mX10_fewest.1 mX10_fewest.1 ∈ ev_T := (ev_t5 141 rfl rfl)
theorem lbX10_keysOfPage : ev_LB mX10_keysOfPage 0 := ⟨iw_WithoutE, (ev_t5 133 rfl rfl), by decide +kernel, by decide +kernel⟩
theorem imX10_keysOfPage : Cond.instanceMethod mX10_keysOfPage.1 ∈ ev_T := (ev_t5 132 rfl rfl)
theorem seX10_keysOfPage : Cond.selects mX10_keysOfPage.1.cls mX10_keysOfPage.1 mX10_keysOfPage.1 ∈ ev_T := (ev_pi 55 (by decide +kernel) rfl)
theorem lbX10_letters : ev_LB mX10_letters 1 := ⟨iw_WithoutE, (ev_t5 146 rfl rfl), by decide +kernel, by decide +kernel⟩
theorem imX10_letters : Cond.instanceMethod mX10_letters.1 ∈ ev_T := (ev_t5 144 rfl rfl)
theorem seX10_letters : Cond.selects mX10_letters.1.cls mX10_letters.1 mX10_letters.1 ∈ ev_T := (ev_t5 145 rfl rfl)
theorem lbX10_lot : ev_LB mX10_lot 1 := ⟨iw_WithoutE, (ev_t5 150 rfl rfl), by decide +kernel, by decide +kernel⟩
theorem imX10_lot : Cond.instanceMethod mX10_lot.1 ∈ ev_T := (ev_t5 148 rfl rfl)
theorem seX10_lot : Cond.selects mX10_lot.1.cls mX10_lot.1 mX10_lot.1 ∈ ev_T := (ev_t5 149 rfl rfl)
theorem lbX10_bitOfRank : ev_LB mX10_bitOfRank 2 := ⟨iw_WithoutE, (ev_t5 154 rfl rfl), by decide +kernel, by decide +kernel⟩
theorem stX10_bitOfRank : Cond.static mX10_bitOfRank.1 ∈ ev_T := (ev_t5 153 rfl rfl)
theorem lbX10_wire : ev_LB mX10_wire 1 := ⟨iw_WithoutE, (ev_t5 158 rfl rfl), by decide +kernel, by decide +kernel⟩
theorem imX10_wire : Cond.instanceMethod mX10_wire.1 ∈ ev_T := (ev_t5 156 rfl rfl)
theorem seX10_wire : Cond.selects mX10_wire.1.cls mX10_wire.1 mX10_wire.1 ∈ ev_T := (ev_t5 157 rfl rfl)
theorem lbX10_worth : ev_LB mX10_worth 1 := ⟨iw_WithoutE, (ev_t5 162 rfl rfl), by decide +kernel, by decide +kernel⟩
theorem imX10_worth : Cond.instanceMethod mX10_worth.1 ∈ ev_T := (ev_t5 160 rfl rfl)
theorem seX10_worth : Cond.selects mX10_worth.1.cls mX10_worth.1 mX10_worth.1 ∈ ev_T := (ev_t5 161 rfl rfl)
theorem lbX10_line : ev_LB mX10_line 2 := ⟨iw_WithoutE, (ev_t5 166 rfl rfl), by decide +kernel, by decide +kernel⟩
theorem imX10_line : Cond.instanceMethod mX10_line.1 ∈ ev_T := (ev_t5 164 rfl rfl)
theorem seX10_line : Cond.selects mX10_line.1.cls mX10_line.1 mX10_line.1 ∈ ev_T := (ev_t5 165 rfl rfl)
theorem lbX10_priceSentences : ev_LB mX10_priceSentences 0 := ⟨iw_WithoutE, (ev_t5 170 rfl rfl), by decide +kernel, by decide +kernel⟩
theorem imX10_priceSentences : Cond.instanceMethod mX10_priceSentences.1 ∈ ev_T := (ev_t5 169 rfl rfl)
theorem seX10_priceSentences : Cond.selects mX10_priceSentences.1.cls mX10_priceSentences.1 mX10_priceSentences.1 ∈ ev_T := (ev_pi 56 (by decide +kernel) rfl)
theorem lbX10_sumOver : ev_LB mX10_sumOver 2 := ⟨iw_WithoutE, (ev_t5 173 rfl rfl), by decide +kernel, by decide +kernel⟩
theorem stX10_sumOver : Cond.static mX10_sumOver.1 ∈ ev_T := (ev_t5 172 rfl rfl)
theorem lbX10_all : ev_LB mX10_all 0 := ⟨iw_WithoutE, (ev_t5 177 rfl rfl), by decide +kernel, by decide +kernel⟩
theorem imX10_all : Cond.instanceMethod mX10_all.1 ∈ ev_T := (ev_t5 175 rfl rfl)
theorem seX10_all : Cond.selects mX10_all.1.cls mX10_all.1 mX10_all.1 ∈ ev_T := (ev_t5 176 rfl rfl)
theorem lbX10_senses : ev_LB mX10_senses 0 := ⟨iw_WithoutE, (ev_t5 181 rfl rfl), by decide +kernel, by decide +kernel⟩
theorem imX10_senses : Cond.instanceMethod mX10_senses.1 ∈ ev_T := (ev_t5 179 rfl rfl)
theorem seX10_senses : Cond.selects mX10_senses.1.cls mX10_senses.1 mX10_senses.1 ∈ ev_T := (ev_t5 180 rfl rfl)
theorem lbX10_report : ev_LB mX10_report 0 := ⟨iw_WithoutE, (ev_t5 186 rfl rfl), by decide +kernel, by decide +kernel⟩
theorem imX10_report : Cond.instanceMethod mX10_report.1 ∈ ev_T := (ev_t5 184 rfl rfl)
theorem seX10_report : Cond.selects mX10_report.1.cls mX10_report.1 mX10_report.1 ∈ ev_T := (ev_t5 185 rfl rfl)
theorem lbX10_clear : ev_LB mX10_clear 0 := ⟨iw_WithoutE, (ev_t5 190 rfl rfl), by decide +kernel, by decide +kernel⟩
theorem imX10_clear : Cond.instanceMethod mX10_clear.1 ∈ ev_T := (ev_t5 188 rfl rfl)
theorem seX10_clear : Cond.selects mX10_clear.1.cls mX10_clear.1 mX10_clear.1 ∈ ev_T := (ev_t5 189 rfl rfl)
theorem lbX10_meant : ev_LB mX10_meant 1 := ⟨iw_WithoutE, (ev_t5 194 rfl rfl), by decide +kernel, by decide +kernel⟩
theorem imX10_meant : Cond.instanceMethod mX10_meant.1 ∈ ev_T := (ev_t5 192 rfl rfl)
theorem seX10_meant : Cond.selects mX10_meant.1.cls mX10_meant.1 mX10_meant.1 ∈ ev_T := (ev_t5 193 rfl rfl)
theorem lbX10_fits : ev_LB mX10_fits 0 := ⟨iw_WithoutE, (ev_t5 201 rfl rfl), by decide +kernel, by decide +kernel⟩
theorem imX10_fits : Cond.instanceMethod mX10_fits.1 ∈ ev_T := (ev_t5 199 rfl rfl)
theorem seX10_fits : Cond.selects mX10_fits.1.cls mX10_fits.1 mX10_fits.1 ∈ ev_T := (ev_t5 200 rfl rfl)
theorem lbX10_fitsReport : ev_LB mX10_fitsReport 1 := ⟨iw_WithoutE, (ev_t5 205 rfl rfl), by decide +kernel, by decide +kernel⟩
theorem imX10_fitsReport : Cond.instanceMethod mX10_fitsReport.1 ∈ ev_T := (ev_t5 204 rfl rfl)
theorem seX10_fitsReport : Cond.selects mX10_fitsReport.1.cls mX10_fitsReport.1 mX10_fitsReport.1 ∈ ev_T := (ev_pi 57 (by decide +kernel) rfl)
theorem lbX10_isAlike : ev_LB mX10_isAlike 3 := ⟨iw_WithoutE, (ev_t5 197 rfl rfl), by decide +kernel, by decide +kernel⟩
theorem stX10_isAlike : Cond.static mX10_isAlike.1 ∈ ev_T := (ev_t5 196 rfl rfl)
theorem lbX10_is : ev_LB mX10_is 1 := ⟨iw_WithoutE, (ev_t5 210 rfl rfl), by decide +kernel, by decide +kernel⟩
theorem imX10_is : Cond.instanceMethod mX10_is.1 ∈ ev_T := (ev_t5 208 rfl rfl)
theorem seX10_is : Cond.selects mX10_is.1.cls mX10_is.1 mX10_is.1 ∈ ev_T := (ev_t5 209 rfl rfl)
theorem lbX10_use : ev_LB mX10_use 1 := ⟨iw_WithoutE, (ev_t5 214 rfl rfl), by decide +kernel, by decide +kernel⟩
theorem imX10_use : Cond.instanceMethod mX10_use.1 ∈ ev_T := (ev_t5 212 rfl rfl)
theorem seX10_use : Cond.selects mX10_use.1.cls mX10_use.1 mX10_use.1 ∈ ev_T := (ev_t5 213 rfl rfl)
theorem lbX10_book : ev_LB mX10_book 2 := ⟨iw_WithoutE, (ev_t5 218 rfl rfl), by decide +kernel, by decide +kernel⟩
theorem imX10_book : Cond.instanceMethod mX10_book.1 ∈ ev_T := (ev_t5 216 rfl rfl)
theorem seX10_book : Cond.selects mX10_book.1.cls mX10_book.1 mX10_book.1 ∈ ev_T := (ev_t5 217 rfl rfl)
theorem lbX10_image : ev_LB mX10_image 0 := ⟨iw_WithoutE, (ev_t5 232 rfl rfl), by decide +kernel, by decide +kernel⟩
theorem imX10_image : Cond.instanceMethod mX10_image.1 ∈ ev_T := (ev_t5 230 rfl rfl)
theorem seX10_image : Cond.selects mX10_image.1.cls mX10_image.1 mX10_image.1 ∈ ev_T := (ev_t5 231 rfl rfl)
theorem lbX10_restore : ev_LB mX10_restore 0 := ⟨iw_WithoutE, (ev_t6 5 rfl rfl), by decide +kernel, by decide +kernel⟩
theorem imX10_restore : Cond.instanceMethod mX10_restore.1 ∈ ev_T := (ev_t6 3 rfl rfl)
theorem seX10_restore : Cond.selects mX10_restore.1.cls mX10_restore.1 mX10_restore.1 ∈ ev_T := (ev_t6 4 rfl rfl)
theorem lbX10_status : ev_LB mX10_status 1 := ⟨iw_WithoutE, (ev_t6 9 rfl rfl), by decide +kernel, by decide +kernel⟩
theorem imX10_status : Cond.instanceMethod mX10_status.1 ∈ ev_T := (ev_t6 7 rfl rfl)
theorem seX10_status : Cond.selects mX10_status.1.cls mX10_status.1 mX10_status.1 ∈ ev_T := (ev_t6 8 rfl rfl)
theorem lbX10_about : ev_LB mX10_about 1 := ⟨iw_WithoutE, (ev_t6 13 rfl rfl), by decide +kernel, by decide +kernel⟩
theorem imX10_about : Cond.instanceMethod mX10_about.1 ∈ ev_T := (ev_t6 11 rfl rfl)
theorem seX10_about : Cond.selects mX10_about.1.cls mX10_about.1 mX10_about.1 ∈ ev_T := (ev_t6 12 rfl rfl)
theorem lbX10_isLetter : ev_LB mX10_isLetter 1 := ⟨iw_WithoutE, (ev_t4 4 rfl rfl), by decide +kernel, by decide +kernel⟩
theorem stX10_isLetter : Cond.static mX10_isLetter.1 ∈ ev_T := (ev_t4 3 rfl rfl)
theorem lbX10_isSense : ev_LB mX10_isSense 1 := ⟨iw_WithoutE, (ev_t4 208 rfl rfl), by decide +kernel, by decide +kernel⟩
theorem stX10_isSense : Cond.static mX10_isSense.1 ∈ ev_T := (ev_t4 207 rfl rfl)
theorem lbX10_has : ev_LB mX10_has 2 := ⟨iw_WithoutE, (ev_t4 11 rfl rfl), by decide +kernel, by decide +kernel⟩
theorem stX10_has : Cond.static mX10_has.1 ∈ ev_T := (ev_t4 10 rfl rfl)
theorem lbX10_isSmall : ev_LB mX10_isSmall 1 := ⟨iw_WithoutE, (ev_t3 175 rfl rfl), by decide +kernel, by decide +kernel⟩
theorem stX10_isSmall : Cond.static mX10_isSmall.1 ∈ ev_T := (ev_t3 174 rfl rfl)
theorem lbX11_copy : ev_LB mX11_copy 2 := ⟨iw_WithoutEModel, (ev_t6 22 rfl rfl), by decide +kernel, by decide +kernel⟩
theorem stX11_copy : Cond.static mX11_copy.1 ∈ ev_T := (ev_t6 21 rfl rfl)
theorem lbX11_isIn : ev_LB mX11_isIn 3 := ⟨iw_WithoutEModel, (ev_t6 144 rfl rfl), by decide +kernel, by decide +kernel⟩
theorem stX11_isIn : Cond.static mX11_isIn.1 ∈ ev_T := (ev_t6 143 rfl rfl)
theorem lbX11_bound : ev_LB mX11_bound 3 := ⟨iw_WithoutEModel, (ev_t7 203 rfl rfl), by decide +kernel, by decide +kernel⟩
theorem stX11_bound : Cond.static mX11_bound.1 ∈ ev_T := (ev_t7 202 rfl rfl)
theorem lbX11_has : ev_LB mX11_has 2 := ⟨iw_WithoutEModel, (ev_t6 202 rfl rfl), by decide +kernel, by decide +kernel⟩
theorem stX11_has : Cond.static mX11_has.1 ∈ ev_T := (ev_t6 201 rfl rfl)
theorem lbX11_bits : ev_LB mX11_bits 1 := ⟨iw_WithoutEModel, (ev_t7 169 rfl rfl), by decide +kernel, by decide +kernel⟩
theorem stX11_bits : Cond.static mX11_bits.1 ∈ ev_T := (ev_t7 168 rfl rfl)
theorem lbX11_isWordOf : ev_LB mX11_isWordOf 1 := ⟨iw_WithoutEModel, (ev_t7 95 rfl rfl), by decide +kernel, by decide +kernel⟩
theorem imX11_isWordOf : Cond.instanceMethod mX11_isWordOf.1 ∈ ev_T := (ev_t7 94 rfl rfl)
theorem seX11_isWordOf : Cond.selects mX11_isWordOf.1.cls mX11_isWordOf.1 mX11_isWordOf.1 ∈ ev_T := (ev_pi 92 (by decide +kernel) rfl)
theorem lbX11_isSentence : ev_LB mX11_isSentence 1 := ⟨iw_WithoutEModel, (ev_t7 138 rfl rfl), by decide +kernel, by decide +kernel⟩
theorem imX11_isSentence : Cond.instanceMethod mX11_isSentence.1 ∈ ev_T := (ev_t7 137 rfl rfl)
theorem seX11_isSentence : Cond.selects mX11_isSentence.1.cls mX11_isSentence.1 mX11_isSentence.1 ∈ ev_T := (ev_pi 97 (by decide +kernel) rfl)
theorem lbX11_isLetter : ev_LB mX11_isLetter 1 := ⟨iw_WithoutEModel, (ev_t7 114 rfl rfl), by decide +kernel, by decide +kernel⟩
theorem stX11_isLetter : Cond.static mX11_isLetter.1 ∈ ev_T := (ev_t7 113 rfl rfl)
theorem lbX11_get : ev_LB mX11_get 2 := ⟨iw_WithoutEModel, (ev_t7 99 rfl rfl), by decide +kernel, by decide +kernel⟩
theorem imX11_get : Cond.instanceMethod mX11_get.1 ∈ ev_T := (ev_t7 98 rfl rfl)
theorem seX11_get : Cond.selects mX11_get.1.cls mX11_get.1 mX11_get.1 ∈ ev_T := (ev_pi 93 (by decide +kernel) rfl)
theorem lbX11_isLost : ev_LB mX11_isLost 1 := ⟨iw_WithoutEModel, (ev_t7 126 rfl rfl), by decide +kernel, by decide +kernel⟩
theorem imX11_isLost : Cond.instanceMethod mX11_isLost.1 ∈ ev_T := (ev_t7 125 rfl rfl)
theorem seX11_isLost : Cond.selects mX11_isLost.1.cls mX11_isLost.1 mX11_isLost.1 ∈ ev_T := (ev_pi 95 (by decide +kernel) rfl)
theorem lbX11_isMadeOfLeft : ev_LB mX11_isMadeOfLeft 1 := ⟨iw_WithoutEModel, (ev_t7 158 rfl rfl), by decide +kernel, by decide +kernel⟩
theorem imX11_isMadeOfLeft : Cond.instanceMethod mX11_isMadeOfLeft.1 ∈ ev_T := (ev_t7 157 rfl rfl)
theorem seX11_isMadeOfLeft : Cond.selects mX11_isMadeOfLeft.1.cls mX11_isMadeOfLeft.1 mX11_isMadeOfLeft.1 ∈ ev_T := (ev_pi 102 (by decide +kernel) rfl)
theorem lbX11_refused : ev_LB mX11_refused 1 := ⟨iw_WithoutEModel, (ev_t7 83 rfl rfl), by decide +kernel, by decide +kernel⟩
theorem imX11_refused : Cond.instanceMethod mX11_refused.1 ∈ ev_T := (ev_t7 82 rfl rfl)
theorem seX11_refused : Cond.selects mX11_refused.1.cls mX11_refused.1 mX11_refused.1 ∈ ev_T := (ev_pi 90 (by decide +kernel) rfl)
theorem lbX11_holesOf : ev_LB mX11_holesOf 1 := ⟨iw_WithoutEModel, (ev_t7 154 rfl rfl), by decide +kernel, by decide +kernel⟩
theorem imX11_holesOf : Cond.instanceMethod mX11_holesOf.1 ∈ ev_T := (ev_t7 153 rfl rfl)
theorem seX11_holesOf : Cond.selects mX11_holesOf.1.cls mX11_holesOf.1 mX11_holesOf.1 ∈ ev_T := (ev_pi 101 (by decide +kernel) rfl)
theorem lbX11_canBe : ev_LB mX11_canBe 1 := ⟨iw_WithoutEModel, (ev_t7 150 rfl rfl), by decide +kernel, by decide +kernel⟩
theorem imX11_canBe : Cond.instanceMethod mX11_canBe.1 ∈ ev_T := (ev_t7 149 rfl rfl)
theorem seX11_canBe : Cond.selects mX11_canBe.1.cls mX11_canBe.1 mX11_canBe.1 ∈ ev_T := (ev_pi 100 (by decide +kernel) rfl)
theorem lbX11_extraOf : ev_LB mX11_extraOf 1 := ⟨iw_WithoutEModel, (ev_t7 173 rfl rfl), by decide +kernel, by decide +kernel⟩
theorem imX11_extraOf : Cond.instanceMethod mX11_extraOf.1 ∈ ev_T := (ev_t7 172 rfl rfl)
theorem seX11_extraOf : Cond.selects mX11_extraOf.1.cls mX11_extraOf.1 mX11_extraOf.1 ∈ ev_T := (ev_pi 105 (by decide +kernel) rfl)
theorem lbX11_secondsOf : ev_LB mX11_secondsOf 1 := ⟨iw_WithoutEModel, (ev_t8 4 rfl rfl), by decide +kernel, by decide +kernel⟩
theorem imX11_secondsOf : Cond.instanceMethod mX11_secondsOf.1 ∈ ev_T := (ev_t8 3 rfl rfl)
theorem seX11_secondsOf : Cond.selects mX11_secondsOf.1.cls mX11_secondsOf.1 mX11_secondsOf.1 ∈ ev_T := (ev_pi 118 (by decide +kernel) rfl)
theorem lbX11_four : ev_LB mX11_four 1 := ⟨iw_WithoutEModel, (ev_t6 137 rfl rfl), by decide +kernel, by decide +kernel⟩
theorem imX11_four : Cond.instanceMethod mX11_four.1 ∈ ev_T := (ev_t6 136 rfl rfl)
theorem seX11_four : Cond.selects mX11_four.1.cls mX11_four.1 mX11_four.1 ∈ ev_T := (ev_pi 58 (by decide +kernel) rfl)
theorem lbX11_feed : ev_LB mX11_feed 5 := ⟨iw_WithoutEModel, (ev_t6 133 rfl rfl), by decide +kernel, by decide +kernel⟩
theorem imX11_feed : Cond.instanceMethod mX11_feed.1 ∈ ev_T := (ev_t6 131 rfl rfl)
theorem seX11_feed : Cond.selects mX11_feed.1.cls mX11_feed.1 mX11_feed.1 ∈ ev_T := (ev_t6 132 rfl rfl)
theorem lbX11_end : ev_LB mX11_end 1 := ⟨iw_WithoutEModel, (ev_t6 141 rfl rfl), by decide +kernel, by decide +kernel⟩
theorem imX11_end : Cond.instanceMethod mX11_end.1 ∈ ev_T := (ev_t6 139 rfl rfl)
theorem seX11_end : Cond.selects mX11_end.1.cls mX11_end.1 mX11_end.1 ∈ ev_T := (ev_t6 140 rfl rfl)
theorem lbX11_byteAt : ev_LB mX11_byteAt 1 := ⟨iw_WithoutEModel, (ev_t6 160 rfl rfl), by decide +kernel, by decide +kernel⟩
theorem imX11_byteAt : Cond.instanceMethod mX11_byteAt.1 ∈ ev_T := (ev_t6 159 rfl rfl)
theorem seX11_byteAt : Cond.selects mX11_byteAt.1.cls mX11_byteAt.1 mX11_byteAt.1 ∈ ev_T := (ev_pi 61 (by decide +kernel) rfl)
theorem lbX11_isLetterByte : ev_LB mX11_isLetterByte 1 := ⟨iw_WithoutEModel, (ev_t6 167 rfl rfl), by decide +kernel, by decide +kernel⟩
theorem stX11_isLetterByte : Cond.static mX11_isLetterByte.1 ∈ ev_T := (ev_t6 166 rfl rfl)
theorem lbX11_isFigure : ev_LB mX11_isFigure 1 := ⟨iw_WithoutEModel, (ev_t6 163 rfl rfl), by decide +kernel, by decide +kernel⟩
theorem stX11_isFigure : Cond.static mX11_isFigure.1 ∈ ev_T := (ev_t6 162 rfl rfl)
theorem lbX11_isSign : ev_LB mX11_isSign 1 := ⟨iw_WithoutEModel, (ev_t6 171 rfl rfl), by decide +kernel, by decide +kernel⟩
theorem stX11_isSign : Cond.static mX11_isSign.1 ∈ ev_T := (ev_t6 170 rfl rfl)
theorem lbX11_nextToken : ev_LB mX11_nextToken 0 := ⟨iw_WithoutEModel, (ev_t6 156 rfl rfl), by decide +kernel, by decide +kernel⟩
theorem imX11_nextToken : Cond.instanceMethod mX11_nextToken.1 ∈ ev_T := (ev_t6 155 rfl rfl)
theorem seX11_nextToken : Cond.selects mX11_nextToken.1.cls mX11_nextToken.1 mX11_nextToken.1 ∈ ev_T := (ev_pi 60 (by decide +kernel) rfl)
theorem lbX11_w2 : ev_LB mX11_w2 2 := ⟨iw_WithoutEModel, (ev_t6 191 rfl rfl), by decide +kernel, by decide +kernel⟩
theorem stX11_w2 : Cond.static mX11_w2.1 ∈ ev_T := (ev_t6 190 rfl rfl)
theorem lbX11_w3 : ev_LB mX11_w3 3 := ⟨iw_WithoutEModel, (ev_t6 188 rfl rfl), by decide +kernel, by decide +kernel⟩
theorem stX11_w3 : Cond.static mX11_w3.1 ∈ ev_T := (ev_t6 187 rfl rfl)
theorem lbX11_w4 : ev_LB mX11_w4 4 := ⟨iw_WithoutEModel, (ev_t6 185 rfl rfl), by decide +kernel, by decide +kernel⟩
theorem stX11_w4 : Cond.static mX11_w4.1 ∈ ev_T := (ev_t6 184 rfl rfl)
theorem lbX11_w5 : ev_LB mX11_w5 5 := ⟨iw_WithoutEModel, (ev_t6 182 rfl rfl), by decide +kernel, by decide +kernel⟩
theorem stX11_w5 : Cond.static mX11_w5.1 ∈ ev_T := (ev_t6 181 rfl rfl)
theorem lbX11_w6 : ev_LB mX11_w6 6 := ⟨iw_WithoutEModel, (ev_t7 48 rfl rfl), by decide +kernel, by decide +kernel⟩
theorem stX11_w6 : Cond.static mX11_w6.1 ∈ ev_T := (ev_t7 47 rfl rfl)
theorem lbX11_isWord : ev_LB mX11_isWord 1 := ⟨iw_WithoutEModel, (ev_t6 195 rfl rfl), by decide +kernel, by decide +kernel⟩
theorem imX11_isWord : Cond.instanceMethod mX11_isWord.1 ∈ ev_T := (ev_t6 194 rfl rfl)
theorem seX11_isWord : Cond.selects mX11_isWord.1.cls mX11_isWord.1 mX11_isWord.1 ∈ ev_T := (ev_pi 64 (by decide +kernel) rfl)
theorem lbX11_emit : ev_LB mX11_emit 2 := ⟨iw_WithoutEModel, (ev_t7 33 rfl rfl), by decide +kernel, by decide +kernel⟩
theorem imX11_emit : Cond.instanceMethod mX11_emit.1 ∈ ev_T := (ev_t7 32 rfl rfl)
theorem seX11_emit : Cond.selects mX11_emit.1.cls mX11_emit.1 mX11_emit.1 ∈ ev_T := (ev_pi 82 (by decide +kernel) rfl)
theorem lbX11_isLong : ev_LB mX11_isLong 2 := ⟨iw_WithoutEModel, (ev_t6 199 rfl rfl), by decide +kernel, by decide +kernel⟩
theorem imX11_isLong : Cond.instanceMethod mX11_isLong.1 ∈ ev_T := (ev_t6 198 rfl rfl)
theorem seX11_isLong : Cond.selects mX11_isLong.1.cls mX11_isLong.1 mX11_isLong.1 ∈ ev_T := (ev_pi 65 (by decide +kernel) rfl)
theorem lbX11_nameOf : ev_LB mX11_nameOf 0 := ⟨iw_WithoutEModel, (ev_t7 45 rfl rfl), by decide +kernel, by decide +kernel⟩
theorem imX11_nameOf : Cond.instanceMethod mX11_nameOf.1 ∈ ev_T := (ev_t7 44 rfl rfl)
theorem seX11_nameOf : Cond.selects mX11_nameOf.1.cls mX11_nameOf.1 mX11_nameOf.1 ∈ ev_T := (ev_pi 85 (by decide +kernel) rfl)
theorem lbX11_isOf : ev_LB mX11_isOf 1 := ⟨iw_WithoutEModel, (ev_t7 52 rfl rfl), by decide +kernel, by decide +kernel⟩
theorem imX11_isOf : Cond.instanceMethod mX11_isOf.1 ∈ ev_T := (ev_t7 51 rfl rfl)
theorem seX11_isOf : Cond.selects mX11_isOf.1.cls mX11_isOf.1 mX11_isOf.1 ∈ ev_T := (ev_pi 86 (by decide +kernel) rfl)
theorem lbX11_rank : ev_LB mX11_rank 1 := ⟨iw_WithoutEModel, (ev_t7 21 rfl rfl), by decide +kernel, by decide +kernel⟩
theorem stX11_rank : Cond.static mX11_rank.1 ∈ ev_T := (ev_t7 20 rfl rfl)
theorem lbX11_settle : ev_LB mX11_settle 1 := ⟨iw_WithoutEModel, (ev_t7 29 rfl rfl), by decide +kernel, by decide +kernel⟩
theorem imX11_settle : Cond.instanceMethod mX11_settle.1 ∈ ev_T := (ev_t7 28 rfl rfl)
theorem seX11_settle : Cond.selects mX11_settle.1.cls mX11_settle.1 mX11_settle.1 ∈ ev_T := (ev_pi 81 (by decide +kernel) rfl)
theorem lbX11_openAt : ev_LB mX11_openAt 0 := ⟨iw_WithoutEModel, (ev_t7 14 rfl rfl), by decide +kernel, by decide +kernel⟩
theorem imX11_openAt : Cond.instanceMethod mX11_openAt.1 ∈ ev_T := (ev_t7 13 rfl rfl)
theorem seX11_openAt : Cond.selects mX11_openAt.1.cls mX11_openAt.1 mX11_openAt.1 ∈ ev_T := (ev_pi 78 (by decide +kernel) rfl)
theorem lbX11_openNow : ev_LB mX11_openNow 0 := ⟨iw_WithoutEModel, (ev_t7 10 rfl rfl), by decide +kernel, by decide +kernel⟩
theorem imX11_openNow : Cond.instanceMethod mX11_openNow.1 ∈ ev_T := (ev_t7 9 rfl rfl)
theorem seX11_openNow : Cond.selects mX11_openNow.1.cls mX11_openNow.1 mX11_openNow.1 ∈ ev_T := (ev_pi 77 (by decide +kernel) rfl)
theorem lbX11_isCompared : ev_LB mX11_isCompared 0 := ⟨iw_WithoutEModel, (ev_t7 18 rfl rfl), by decide +kernel, by decide +kernel⟩
theorem imX11_isCompared : Cond.instanceMethod mX11_isCompared.1 ∈ ev_T := (ev_t7 17 rfl rfl)
theorem seX11_isCompared : Cond.selects mX11_isCompared.1.cls mX11_isCompared.1 mX11_isCompared.1 ∈ ev_T := (ev_pi 79 (by decide +kernel) rfl)
theorem lbX11_isAskAhead : ev_LB mX11_isAskAhead 0 := ⟨iw_WithoutEModel, (ev_t7 60 rfl rfl), by decide +kernel, by decide +kernel⟩
theorem imX11_isAskAhead : Cond.instanceMethod mX11_isAskAhead.1 ∈ ev_T := (ev_t7 59 rfl rfl)
theorem seX11_isAskAhead : Cond.selects mX11_isAskAhead.1.cls mX11_isAskAhead.1 mX11_isAskAhead.1 ∈ ev_T := (ev_pi 88 (by decide +kernel) rfl)
theorem lbX11_opened : ev_LB mX11_opened 1 := ⟨iw_WithoutEModel, (ev_t7 56 rfl rfl), by decide +kernel, by decide +kernel⟩
theorem imX11_opened : Cond.instanceMethod mX11_opened.1 ∈ ev_T := (ev_t7 55 rfl rfl)
theorem seX11_opened : Cond.selects mX11_opened.1.cls mX11_opened.1 mX11_opened.1 ∈ ev_T := (ev_pi 87 (by decide +kernel) rfl)
theorem lbX11_beginOne : ev_LB mX11_beginOne 0 := ⟨iw_WithoutEModel, (ev_t7 41 rfl rfl), by decide +kernel, by decide +kernel⟩
theorem imX11_beginOne : Cond.instanceMethod mX11_beginOne.1 ∈ ev_T := (ev_t7 40 rfl rfl)
theorem seX11_beginOne : Cond.selects mX11_beginOne.1.cls mX11_beginOne.1 mX11_beginOne.1 ∈ ev_T := (ev_pi 84 (by decide +kernel) rfl)
theorem lbX11_compareOf : ev_LB mX11_compareOf 0 := ⟨iw_WithoutEModel, (ev_t7 25 rfl rfl), by decide +kernel, by decide +kernel⟩
theorem imX11_compareOf : Cond.instanceMethod mX11_compareOf.1 ∈ ev_T := (ev_t7 24 rfl rfl)
theorem seX11_compareOf : Cond.selects mX11_compareOf.1.cls mX11_compareOf.1 mX11_compareOf.1 ∈ ev_T := (ev_pi 80 (by decide +kernel) rfl)
theorem lbX11_betweenOf : ev_LB mX11_betweenOf 0 := ⟨iw_WithoutEModel, (ev_t7 6 rfl rfl), by decide +kernel, by decide +kernel⟩
theorem imX11_betweenOf : Cond.instanceMethod mX11_betweenOf.1 ∈ ev_T := (ev_t7 5 rfl rfl)
theorem seX11_betweenOf : Cond.selects mX11_betweenOf.1.cls mX11_betweenOf.1 mX11_betweenOf.1 ∈ ev_T := (ev_pi 76 (by decide +kernel) rfl)
theorem lbX11_partOf : ev_LB mX11_partOf 1 := ⟨iw_WithoutEModel, (ev_t7 37 rfl rfl), by decide +kernel, by decide +kernel⟩
theorem imX11_partOf : Cond.instanceMethod mX11_partOf.1 ∈ ev_T := (ev_t7 36 rfl rfl)
theorem seX11_partOf : Cond.selects mX11_partOf.1.cls mX11_partOf.1 mX11_partOf.1 ∈ ev_T := (ev_pi 83 (by decide +kernel) rfl)
theorem lbX11_behindOne : ev_LB mX11_behindOne 0 := ⟨iw_WithoutEModel, (ev_t7 2 rfl rfl), by decide +kernel, by decide +kernel⟩
theorem imX11_behindOne : Cond.instanceMethod mX11_behindOne.1 ∈ ev_T := (ev_t7 1 rfl rfl)
theorem seX11_behindOne : Cond.selects mX11_behindOne.1.cls mX11_behindOne.1 mX11_behindOne.1 ∈ ev_T := (ev_pi 75 (by decide +kernel) rfl)
theorem lbX11_summed : ev_LB mX11_summed 0 := ⟨iw_WithoutEModel, (ev_t6 238 rfl rfl), by decide +kernel, by decide +kernel⟩
theorem imX11_summed : Cond.instanceMethod mX11_summed.1 ∈ ev_T := (ev_t6 237 rfl rfl)
theorem seX11_summed : Cond.selects mX11_summed.1.cls mX11_summed.1 mX11_summed.1 ∈ ev_T := (ev_pi 74 (by decide +kernel) rfl)
theorem lbX11_figure : ev_LB mX11_figure 3 := ⟨iw_WithoutEModel, (ev_t6 222 rfl rfl), by decide +kernel, by decide +kernel⟩
theorem imX11_figure : Cond.instanceMethod mX11_figure.1 ∈ ev_T := (ev_t6 221 rfl rfl)
theorem seX11_figure : Cond.selects mX11_figure.1.cls mX11_figure.1 mX11_figure.1 ∈ ev_T := (ev_pi 70 (by decide +kernel) rfl)
theorem lbX11_worded : ev_LB mX11_worded 4 := ⟨iw_WithoutEModel, (ev_t6 218 rfl rfl), by decide +kernel, by decide +kernel⟩
theorem imX11_worded : Cond.instanceMethod mX11_worded.1 ∈ ev_T := (ev_t6 217 rfl rfl)
theorem seX11_worded : Cond.selects mX11_worded.1.cls mX11_worded.1 mX11_worded.1 ∈ ev_T := (ev_pi 69 (by decide +kernel) rfl)
theorem lbX11_lawClause : ev_LB mX11_lawClause 1 := ⟨iw_WithoutEModel, (ev_t6 234 rfl rfl), by decide +kernel, by decide +kernel⟩
theorem imX11_lawClause : Cond.instanceMethod mX11_lawClause.1 ∈ ev_T := (ev_t6 233 rfl rfl)
theorem seX11_lawClause : Cond.selects mX11_lawClause.1.cls mX11_lawClause.1 mX11_lawClause.1 ∈ ev_T := (ev_pi 73 (by decide +kernel) rfl)
theorem lbX11_spelled : ev_LB mX11_spelled 2 := ⟨iw_WithoutEModel, (ev_t6 214 rfl rfl), by decide +kernel, by decide +kernel⟩
theorem imX11_spelled : Cond.instanceMethod mX11_spelled.1 ∈ ev_T := (ev_t6 213 rfl rfl)
theorem seX11_spelled : Cond.selects mX11_spelled.1.cls mX11_spelled.1 mX11_spelled.1 ∈ ev_T := (ev_pi 68 (by decide +kernel) rfl)
theorem lbX11_wordClause : ev_LB mX11_wordClause 1 := ⟨iw_WithoutEModel, (ev_t6 210 rfl rfl), by decide +kernel, by decide +kernel⟩
theorem imX11_wordClause : Cond.instanceMethod mX11_wordClause.1 ∈ ev_T := (ev_t6 209 rfl rfl)
theorem seX11_wordClause : Cond.selects mX11_wordClause.1.cls mX11_wordClause.1 mX11_wordClause.1 ∈ ev_T := (ev_pi 67 (by decide +kernel) rfl)
theorem lbX11_sayClause : ev_LB mX11_sayClause 1 := ⟨iw_WithoutEModel, (ev_t6 226 rfl rfl), by decide +kernel, by decide +kernel⟩
theorem imX11_sayClause : Cond.instanceMethod mX11_sayClause.1 ∈ ev_T := (ev_t6 225 rfl rfl)
theorem seX11_sayClause : Cond.selects mX11_sayClause.1.cls mX11_sayClause.1 mX11_sayClause.1 ∈ ev_T := (ev_pi 71 (by decide +kernel) rfl)
theorem lbX11_makeClause : ev_LB mX11_makeClause 1 := ⟨iw_WithoutEModel, (ev_t6 230 rfl rfl), by decide +kernel, by decide +kernel⟩
theorem imX11_makeClause : Cond.instanceMethod mX11_makeClause.1 ∈ ev_T := (ev_t6 229 rfl rfl)
theorem seX11_makeClause : Cond.selects mX11_makeClause.1.cls mX11_makeClause.1 mX11_makeClause.1 ∈ ev_T := (ev_pi 72 (by decide +kernel) rfl)
theorem lbX11_body : ev_LB mX11_body 2 := ⟨iw_WithoutEModel, (ev_t6 206 rfl rfl), by decide +kernel, by decide +kernel⟩
theorem imX11_body : Cond.instanceMethod mX11_body.1 ∈ ev_T := (ev_t6 205 rfl rfl)
theorem seX11_body : Cond.selects mX11_body.1.cls mX11_body.1 mX11_body.1 ∈ ev_T := (ev_pi 66 (by decide +kernel) rfl)
theorem lbX11_sortOf : ev_LB mX11_sortOf 0 := ⟨iw_WithoutEModel, (ev_t6 179 rfl rfl), by decide +kernel, by decide +kernel⟩
theorem imX11_sortOf : Cond.instanceMethod mX11_sortOf.1 ∈ ev_T := (ev_t6 178 rfl rfl)
theorem seX11_sortOf : Cond.selects mX11_sortOf.1.cls mX11_sortOf.1 mX11_sortOf.1 ∈ ev_T := (ev_pi 63 (by decide +kernel) rfl)
theorem lbX11_clause : ev_LB mX11_clause 0 := ⟨iw_WithoutEModel, (ev_t6 175 rfl rfl), by decide +kernel, by decide +kernel⟩
theorem imX11_clause : Cond.instanceMethod mX11_clause.1 ∈ ev_T := (ev_t6 174 rfl rfl)
theorem seX11_clause : Cond.selects mX11_clause.1.cls mX11_clause.1 mX11_clause.1 ∈ ev_T := (ev_pi 62 (by decide +kernel) rfl)
theorem lbX11_readText : ev_LB mX11_readText 0 := ⟨iw_WithoutEModel, (ev_t6 152 rfl rfl), by decide +kernel, by decide +kernel⟩
theorem imX11_readText : Cond.instanceMethod mX11_readText.1 ∈ ev_T := (ev_t6 151 rfl rfl)
theorem seX11_readText : Cond.selects mX11_readText.1.cls mX11_readText.1 mX11_readText.1 ∈ ev_T := (ev_pi 59 (by decide +kernel) rfl)
theorem lbX11_text : ev_LB mX11_text 0 := ⟨iw_WithoutEModel, (ev_t6 148 rfl rfl), by decide +kernel, by decide +kernel⟩
theorem imX11_text : Cond.instanceMethod mX11_text.1 ∈ ev_T := (ev_t6 146 rfl rfl)
theorem seX11_text : Cond.selects mX11_text.1.cls mX11_text.1 mX11_text.1 ∈ ev_T := (ev_t6 147 rfl rfl)
theorem lbX11_fault : ev_LB mX11_fault 1 := ⟨iw_WithoutEModel, (ev_t7 64 rfl rfl), by decide +kernel, by decide +kernel⟩
theorem imX11_fault : Cond.instanceMethod mX11_fault.1 ∈ ev_T := (ev_t7 62 rfl rfl)
theorem seX11_fault : Cond.selects mX11_fault.1.cls mX11_fault.1 mX11_fault.1 ∈ ev_T := (ev_t7 63 rfl rfl)
theorem lbX11_by : ev_LB mX11_by 1 := ⟨iw_WithoutEModel, (ev_t7 68 rfl rfl), by decide +kernel, by decide +kernel⟩
theorem imX11_by : Cond.instanceMethod mX11_by.1 ∈ ev_T := (ev_t7 66 rfl rfl)
theorem seX11_by : Cond.selects mX11_by.1.cls mX11_by.1 mX11_by.1 ∈ ev_T := (ev_t7 67 rfl rfl)
theorem lbX11_clip : ev_LB mX11_clip 1 := ⟨iw_WithoutEModel, (ev_t7 192 rfl rfl), by decide +kernel, by decide +kernel⟩
theorem stX11_clip : Cond.static mX11_clip.1 ∈ ev_T := (ev_t7 191 rfl rfl)
theorem lbX11_two : ev_LB mX11_two 3 := ⟨iw_WithoutEModel, (ev_t7 189 rfl rfl), by decide +kernel, by decide +kernel⟩
theorem stX11_two : Cond.static mX11_two.1 ∈ ev_T := (ev_t7 188 rfl rfl)
theorem lbX11_isAsked : ev_LB mX11_isAsked 3 := ⟨iw_WithoutEModel, (ev_t7 197 rfl rfl), by decide +kernel, by decide +kernel⟩
theorem stX11_isAsked : Cond.static mX11_isAsked.1 ∈ ev_T := (ev_t7 196 rfl rfl)
theorem lbX11_usesOf : ev_LB mX11_usesOf 1 := ⟨iw_WithoutEModel, (ev_t7 185 rfl rfl), by decide +kernel, by decide +kernel⟩
theorem imX11_usesOf : Cond.instanceMethod mX11_usesOf.1 ∈ ev_T := (ev_t7 184 rfl rfl)
theorem seX11_usesOf : Cond.selects mX11_usesOf.1.cls mX11_usesOf.1 mX11_usesOf.1 ∈ ev_T := (ev_pi 108 (by decide +kernel) rfl)
theorem lbX11_joined : ev_LB mX11_joined 3 := ⟨iw_WithoutEModel, (ev_t7 200 rfl rfl), by decide +kernel, by decide +kernel⟩
theorem stX11_joined : Cond.static mX11_joined.1 ∈ ev_T := (ev_t7 199 rfl rfl)
theorem lbX11_summedUp : ev_LB mX11_summedUp 2 := ⟨iw_WithoutEModel, (ev_t7 181 rfl rfl), by decide +kernel, by decide +kernel⟩
theorem imX11_summedUp : Cond.instanceMethod mX11_summedUp.1 ∈ ev_T := (ev_t7 180 rfl rfl)
theorem seX11_summedUp : Cond.selects mX11_summedUp.1.cls mX11_summedUp.1 mX11_summedUp.1 ∈ ev_T := (ev_pi 107 (by decide +kernel) rfl)
theorem lbX11_says : ev_LB mX11_says 4 := ⟨iw_WithoutEModel, (ev_t7 177 rfl rfl), by decide +kernel, by decide +kernel⟩
theorem imX11_says : Cond.instanceMethod mX11_says.1 ∈ ev_T := (ev_t7 176 rfl rfl)
theorem seX11_says : Cond.selects mX11_says.1.cls mX11_says.1 mX11_says.1 ∈ ev_T := (ev_pi 106 (by decide +kernel) rfl)
theorem lbX11_name : ev_LB mX11_name 0 := ⟨iw_WithoutEModel, (ev_t7 166 rfl rfl), by decide +kernel, by decide +kernel⟩
theorem imX11_name : Cond.instanceMethod mX11_name.1 ∈ ev_T := (ev_t7 165 rfl rfl)
theorem seX11_name : Cond.selects mX11_name.1.cls mX11_name.1 mX11_name.1 ∈ ev_T := (ev_pi 104 (by decide +kernel) rfl)
theorem lbX11_stiffOf : ev_LB mX11_stiffOf 2 := ⟨iw_WithoutEModel, (ev_t7 162 rfl rfl), by decide +kernel, by decide +kernel⟩
theorem imX11_stiffOf : Cond.instanceMethod mX11_stiffOf.1 ∈ ev_T := (ev_t7 161 rfl rfl)
theorem seX11_stiffOf : Cond.selects mX11_stiffOf.1.cls mX11_stiffOf.1 mX11_stiffOf.1 ∈ ev_T := (ev_pi 103 (by decide +kernel) rfl)
theorem lbX11_wearsOf : ev_LB mX11_wearsOf 1 := ⟨iw_WithoutEModel, (ev_t8 31 rfl rfl), by decide +kernel, by decide +kernel⟩
theorem imX11_wearsOf : Cond.instanceMethod mX11_wearsOf.1 ∈ ev_T := (ev_t8 30 rfl rfl)
theorem seX11_wearsOf : Cond.selects mX11_wearsOf.1.cls mX11_wearsOf.1 mX11_wearsOf.1 ∈ ev_T := (ev_pi 123 (by decide +kernel) rfl)
theorem lbX11_noticesOf : ev_LB mX11_noticesOf 3 := ⟨iw_WithoutEModel, (ev_t8 152 rfl rfl), by decide +kernel, by decide +kernel⟩
theorem imX11_noticesOf : Cond.instanceMethod mX11_noticesOf.1 ∈ ev_T := (ev_t8 151 rfl rfl)
theorem seX11_noticesOf : Cond.selects mX11_noticesOf.1.cls mX11_noticesOf.1 mX11_noticesOf.1 ∈ ev_T := (ev_pi 134 (by decide +kernel) rfl)
theorem lbX11_lay : ev_LB mX11_lay 3 := ⟨iw_WithoutEModel, (ev_t7 87 rfl rfl), by decide +kernel, by decide +kernel⟩
theorem imX11_lay : Cond.instanceMethod mX11_lay.1 ∈ ev_T := (ev_t7 86 rfl rfl)
theorem seX11_lay : Cond.selects mX11_lay.1.cls mX11_lay.1 mX11_lay.1 ∈ ev_T := (ev_pi 91 (by decide +kernel) rfl)
theorem lbX11_isSpelled : ev_LB mX11_isSpelled 0 := ⟨iw_WithoutEModel, (ev_t7 79 rfl rfl), by decide +kernel, by decide +kernel⟩
theorem imX11_isSpelled : Cond.instanceMethod mX11_isSpelled.1 ∈ ev_T := (ev_t7 78 rfl rfl)
theorem seX11_isSpelled : Cond.selects mX11_isSpelled.1.cls mX11_isSpelled.1 mX11_isSpelled.1 ∈ ev_T := (ev_pi 89 (by decide +kernel) rfl)
theorem lbX11_isWordTold : ev_LB mX11_isWordTold 3 := ⟨iw_WithoutEModel, (ev_t7 75 rfl rfl), by decide +kernel, by decide +kernel⟩
theorem stX11_isWordTold : Cond.static mX11_isWordTold.1 ∈ ev_T := (ev_t7 74 rfl rfl)
theorem lbX11_word : ev_LB mX11_word 3 := ⟨iw_WithoutEModel, (ev_t7 72 rfl rfl), by decide +kernel, by decide +kernel⟩
theorem imX11_word : Cond.instanceMethod mX11_word.1 ∈ ev_T := (ev_t7 70 rfl rfl)
theorem seX11_word : Cond.selects mX11_word.1.cls mX11_word.1 mX11_word.1 ∈ ev_T := (ev_t7 71 rfl rfl)
theorem lbX11_wordOf : ev_LB mX11_wordOf 1 := ⟨iw_WithoutEModel, (ev_t8 47 rfl rfl), by decide +kernel, by decide +kernel⟩
theorem imX11_wordOf : Cond.instanceMethod mX11_wordOf.1 ∈ ev_T := (ev_t8 46 rfl rfl)
theorem seX11_wordOf : Cond.selects mX11_wordOf.1.cls mX11_wordOf.1 mX11_wordOf.1 ∈ ev_T := (ev_pi 126 (by decide +kernel) rfl)
theorem lbX11_turn : ev_LB mX11_turn 1 := ⟨iw_WithoutEModel, (ev_t7 91 rfl rfl), by decide +kernel, by decide +kernel⟩
theorem imX11_turn : Cond.instanceMethod mX11_turn.1 ∈ ev_T := (ev_t7 89 rfl rfl)
theorem seX11_turn : Cond.selects mX11_turn.1.cls mX11_turn.1 mX11_turn.1 ∈ ev_T := (ev_t7 90 rfl rfl)
theorem lbX11_sentenceOf : ev_LB mX11_sentenceOf 1 := ⟨iw_WithoutEModel, (ev_t7 107 rfl rfl), by decide +kernel, by decide +kernel⟩
theorem imX11_sentenceOf : Cond.instanceMethod mX11_sentenceOf.1 ∈ ev_T := (ev_t7 106 rfl rfl)
theorem seX11_sentenceOf : Cond.selects mX11_sentenceOf.1.cls mX11_sentenceOf.1 mX11_sentenceOf.1 ∈ ev_T := (ev_pi 94 (by decide +kernel) rfl)
theorem lbX11_sense : ev_LB mX11_sense 6 := ⟨iw_WithoutEModel, (ev_t7 103 rfl rfl), by decide +kernel, by decide +kernel⟩
theorem imX11_sense : Cond.instanceMethod mX11_sense.1 ∈ ev_T := (ev_t7 101 rfl rfl)
theorem seX11_sense : Cond.selects mX11_sense.1.cls mX11_sense.1 mX11_sense.1 ∈ ev_T := (ev_t7 102 rfl rfl)
theorem lbX11_made : ev_LB mX11_made 3 := ⟨iw_WithoutEModel, (ev_t7 111 rfl rfl), by decide +kernel, by decide +kernel⟩
theorem imX11_made : Cond.instanceMethod mX11_made.1 ∈ ev_T := (ev_t7 109 rfl rfl)
theorem seX11_made : Cond.selects mX11_made.1.cls mX11_made.1 mX11_made.1 ∈ ev_T := (ev_t7 110 rfl rfl)
theorem lbX11_layStiffs : ev_LB mX11_layStiffs 0 := ⟨iw_WithoutEModel, (ev_t7 146 rfl rfl), by decide +kernel, by decide +kernel⟩
theorem imX11_layStiffs : Cond.instanceMethod mX11_layStiffs.1 ∈ ev_T := (ev_t7 145 rfl rfl)
theorem seX11_layStiffs : Cond.selects mX11_layStiffs.1.cls mX11_layStiffs.1 mX11_layStiffs.1 ∈ ev_T := (ev_pi 99 (by decide +kernel) rfl)
theorem lbX11_lengthOf : ev_LB mX11_lengthOf 1 := ⟨iw_WithoutEModel, (ev_t7 216 rfl rfl), by decide +kernel, by decide +kernel⟩
theorem imX11_lengthOf : Cond.instanceMethod mX11_lengthOf.1 ∈ ev_T := (ev_t7 215 rfl rfl)
theorem seX11_lengthOf : Cond.selects mX11_lengthOf.1.cls mX11_lengthOf.1 mX11_lengthOf.1 ∈ ev_T := (ev_pi 111 (by decide +kernel) rfl)
theorem lbX11_isAt : ev_LB mX11_isAt 3 := ⟨iw_WithoutEModel, (ev_t7 220 rfl rfl), by decide +kernel, by decide +kernel⟩
theorem imX11_isAt : Cond.instanceMethod mX11_isAt.1 ∈ ev_T := (ev_t7 219 rfl rfl)
theorem seX11_isAt : Cond.selects mX11_isAt.1.cls mX11_isAt.1 mX11_isAt.1 ∈ ev_T := (ev_pi 112 (by decide +kernel) rfl)
theorem lbX11_behind : ev_LB mX11_behind 2 := ⟨iw_WithoutEModel, (ev_t7 228 rfl rfl), by decide +kernel, by decide +kernel⟩
theorem imX11_behind : Cond.instanceMethod mX11_behind.1 ∈ ev_T := (ev_t7 227 rfl rfl)
theorem seX11_behind : Cond.selects mX11_behind.1.cls mX11_behind.1 mX11_behind.1 ∈ ev_T := (ev_pi 114 (by decide +kernel) rfl)
theorem lbX11_nextOf : ev_LB mX11_nextOf 3 := ⟨iw_WithoutEModel, (ev_t7 224 rfl rfl), by decide +kernel, by decide +kernel⟩
theorem imX11_nextOf : Cond.instanceMethod mX11_nextOf.1 ∈ ev_T := (ev_t7 223 rfl rfl)
theorem seX11_nextOf : Cond.selects mX11_nextOf.1.cls mX11_nextOf.1 mX11_nextOf.1 ∈ ev_T := (ev_pi 113 (by decide +kernel) rfl)
theorem lbX11_layRests : ev_LB mX11_layRests 1 := ⟨iw_WithoutEModel, (ev_t7 212 rfl rfl), by decide +kernel, by decide +kernel⟩
theorem imX11_layRests : Cond.instanceMethod mX11_layRests.1 ∈ ev_T := (ev_t7 211 rfl rfl)
theorem seX11_layRests : Cond.selects mX11_layRests.1.cls mX11_layRests.1 mX11_layRests.1 ∈ ev_T := (ev_pi 110 (by decide +kernel) rfl)
theorem lbX11_leastOf : ev_LB mX11_leastOf 1 := ⟨iw_WithoutEModel, (ev_t7 208 rfl rfl), by decide +kernel, by decide +kernel⟩
theorem imX11_leastOf : Cond.instanceMethod mX11_leastOf.1 ∈ ev_T := (ev_t7 207 rfl rfl)
theorem seX11_leastOf : Cond.selects mX11_leastOf.1.cls mX11_leastOf.1 mX11_leastOf.1 ∈ ev_T := (ev_pi 109 (by decide +kernel) rfl)
theorem lbX11_saidOf : ev_LB mX11_saidOf 1 := ⟨iw_WithoutEModel, (ev_t7 142 rfl rfl), by decide +kernel, by decide +kernel⟩
theorem imX11_saidOf : Cond.instanceMethod mX11_saidOf.1 ∈ ev_T := (ev_t7 141 rfl rfl)
theorem seX11_saidOf : Cond.selects mX11_saidOf.1.cls mX11_saidOf.1 mX11_saidOf.1 ∈ ev_T := (ev_pi 98 (by decide +kernel) rfl)
theorem lbX11_secondsIn : ev_LB mX11_secondsIn 1 := ⟨iw_WithoutEModel, (ev_t8 0 rfl rfl), by decide +kernel, by decide +kernel⟩
theorem imX11_secondsIn : Cond.instanceMethod mX11_secondsIn.1 ∈ ev_T := (ev_t7 239 rfl rfl)
theorem seX11_secondsIn : Cond.selects mX11_secondsIn.1.cls mX11_secondsIn.1 mX11_secondsIn.1 ∈ ev_T := (ev_pi 117 (by decide +kernel) rfl)
theorem lbX11_lettersIn : ev_LB mX11_lettersIn 1 := ⟨iw_WithoutEModel, (ev_t8 92 rfl rfl), by decide +kernel, by decide +kernel⟩
theorem imX11_lettersIn : Cond.instanceMethod mX11_lettersIn.1 ∈ ev_T := (ev_t8 91 rfl rfl)
theorem seX11_lettersIn : Cond.selects mX11_lettersIn.1.cls mX11_lettersIn.1 mX11_lettersIn.1 ∈ ev_T := (ev_pi 129 (by decide +kernel) rfl)
theorem lbX11_keyFor : ev_LB mX11_keyFor 2 := ⟨iw_WithoutEModel, (ev_t7 236 rfl rfl), by decide +kernel, by decide +kernel⟩
theorem imX11_keyFor : Cond.instanceMethod mX11_keyFor.1 ∈ ev_T := (ev_t7 235 rfl rfl)
theorem seX11_keyFor : Cond.selects mX11_keyFor.1.cls mX11_keyFor.1 mX11_keyFor.1 ∈ ev_T := (ev_pi 116 (by decide +kernel) rfl)
theorem lbX11_note : ev_LB mX11_note 3 := ⟨iw_WithoutEModel, (ev_t8 8 rfl rfl), by decide +kernel, by decide +kernel⟩
theorem imX11_note : Cond.instanceMethod mX11_note.1 ∈ ev_T := (ev_t8 7 rfl rfl)
theorem seX11_note : Cond.selects mX11_note.1.cls mX11_note.1 mX11_note.1 ∈ ev_T := (ev_pi 119 (by decide +kernel) rfl)
theorem lbX11_writeNow : ev_LB mX11_writeNow 2 := ⟨iw_WithoutEModel, (ev_t7 232 rfl rfl), by decide +kernel, by decide +kernel⟩
theorem imX11_writeNow : Cond.instanceMethod mX11_writeNow.1 ∈ ev_T := (ev_t7 231 rfl rfl)
theorem seX11_writeNow : Cond.selects mX11_writeNow.1.cls mX11_writeNow.1 mX11_writeNow.1 ∈ ev_T := (ev_pi 115 (by decide +kernel) rfl)
theorem lbX11_anew : ev_LB mX11_anew 0 := ⟨iw_WithoutEModel, (ev_t8 24 rfl rfl), by decide +kernel, by decide +kernel⟩
theorem imX11_anew : Cond.instanceMethod mX11_anew.1 ∈ ev_T := (ev_t8 23 rfl rfl)
theorem seX11_anew : Cond.selects mX11_anew.1.cls mX11_anew.1 mX11_anew.1 ∈ ev_T := (ev_pi 122 (by decide +kernel) rfl)
theorem lbX11_goes : ev_LB mX11_goes 1 := ⟨iw_WithoutEModel, (ev_t8 35 rfl rfl), by decide +kernel, by decide +kernel⟩
theorem imX11_goes : Cond.instanceMethod mX11_goes.1 ∈ ev_T := (ev_t8 34 rfl rfl)
theorem seX11_goes : Cond.selects mX11_goes.1.cls mX11_goes.1 mX11_goes.1 ∈ ev_T := (ev_pi 124 (by decide +kernel) rfl)
theorem lbX11_pass : ev_LB mX11_pass 0 := ⟨iw_WithoutEModel, (ev_t8 20 rfl rfl), by decide +kernel, by decide +kernel⟩
theorem imX11_pass : Cond.instanceMethod mX11_pass.1 ∈ ev_T := (ev_t8 19 rfl rfl)
theorem seX11_pass : Cond.selects mX11_pass.1.cls mX11_pass.1 mX11_pass.1 ∈ ev_T := (ev_pi 121 (by decide +kernel) rfl)
theorem lbX11_keep : ev_LB mX11_keep 0 := ⟨iw_WithoutEModel, (ev_t7 130 rfl rfl), by decide +kernel, by decide +kernel⟩
theorem imX11_keep : Cond.instanceMethod mX11_keep.1 ∈ ev_T := (ev_t7 129 rfl rfl)
theorem seX11_keep : Cond.selects mX11_keep.1.cls mX11_keep.1 mX11_keep.1 ∈ ev_T := (ev_pi 96 (by decide +kernel) rfl)
theorem lbX11_undo : ev_LB mX11_undo 0 := ⟨iw_WithoutEModel, (ev_t7 118 rfl rfl), by decide +kernel, by decide +kernel⟩
theorem imX11_undo : Cond.instanceMethod mX11_undo.1 ∈ ev_T := (ev_t7 116 rfl rfl)
theorem seX11_undo : Cond.selects mX11_undo.1.cls mX11_undo.1 mX11_undo.1 ∈ ev_T := (ev_t7 117 rfl rfl)
theorem lbX11_key : ev_LB mX11_key 1 := ⟨iw_WithoutEModel, (ev_t7 122 rfl rfl), by decide +kernel, by decide +kernel⟩
theorem imX11_key : Cond.instanceMethod mX11_key.1 ∈ ev_T := (ev_t7 120 rfl rfl)
theorem seX11_key : Cond.selects mX11_key.1.cls mX11_key.1 mX11_key.1 ∈ ev_T := (ev_t7 121 rfl rfl)
theorem lbX11_write : ev_LB mX11_write 1 := ⟨iw_WithoutEModel, (ev_t7 134 rfl rfl), by decide +kernel, by decide +kernel⟩
theorem imX11_write : Cond.instanceMethod mX11_write.1 ∈ ev_T := (ev_t7 132 rfl rfl)
theorem seX11_write : Cond.selects mX11_write.1.cls mX11_write.1 mX11_write.1 ∈ ev_T := (ev_t7 133 rfl rfl)
theorem lbX11_arePassed : ev_LB mX11_arePassed 1 := ⟨iw_WithoutEModel, (ev_t8 16 rfl rfl), by decide +kernel, by decide +kernel⟩
theorem imX11_arePassed : Cond.instanceMethod mX11_arePassed.1 ∈ ev_T := (ev_t8 15 rfl rfl)
theorem seX11_arePassed : Cond.selects mX11_arePassed.1.cls mX11_arePassed.1 mX11_arePassed.1 ∈ ev_T := (ev_pi 120 (by decide +kernel) rfl)
theorem lbX11_week : ev_LB mX11_week 1 := ⟨iw_WithoutEModel, (ev_t8 12 rfl rfl), by decide +kernel, by decide +kernel⟩
theorem imX11_week : Cond.instanceMethod mX11_week.1 ∈ ev_T := (ev_t8 10 rfl rfl)
theorem seX11_week : Cond.selects mX11_week.1.cls mX11_week.1 mX11_week.1 ∈ ev_T := (ev_t8 11 rfl rfl)
theorem lbX11_weekOf : ev_LB mX11_weekOf 1 := ⟨iw_WithoutEModel, (ev_t8 59 rfl rfl), by decide +kernel, by decide +kernel⟩
theorem imX11_weekOf : Cond.instanceMethod mX11_weekOf.1 ∈ ev_T := (ev_t8 58 rfl rfl)
theorem seX11_weekOf : Cond.selects mX11_weekOf.1.cls mX11_weekOf.1 mX11_weekOf.1 ∈ ev_T := (ev_pi 128 (by decide +kernel) rfl)
theorem lbX11_isSaid : ev_LB mX11_isSaid 1 := ⟨iw_WithoutEModel, (ev_t8 51 rfl rfl), by decide +kernel, by decide +kernel⟩
theorem imX11_isSaid : Cond.instanceMethod mX11_isSaid.1 ∈ ev_T := (ev_t8 50 rfl rfl)
theorem seX11_isSaid : Cond.selects mX11_isSaid.1.cls mX11_isSaid.1 mX11_isSaid.1 ∈ ev_T := (ev_pi 127 (by decide +kernel) rfl)
theorem lbX11_isPlayed : ev_LB mX11_isPlayed 1 := ⟨iw_WithoutEModel, (ev_t8 43 rfl rfl), by decide +kernel, by decide +kernel⟩
theorem imX11_isPlayed : Cond.instanceMethod mX11_isPlayed.1 ∈ ev_T := (ev_t8 42 rfl rfl)
theorem seX11_isPlayed : Cond.selects mX11_isPlayed.1.cls mX11_isPlayed.1 mX11_isPlayed.1 ∈ ev_T := (ev_pi 125 (by decide +kernel) rfl)
theorem lbX11_played : ev_LB mX11_played 1 := ⟨iw_WithoutEModel, (ev_t8 39 rfl rfl), by decide +kernel, by decide +kernel⟩
theorem imX11_played : Cond.instanceMethod mX11_played.1 ∈ ev_T := (ev_t8 37 rfl rfl)
theorem seX11_played : Cond.selects mX11_played.1.cls mX11_played.1 mX11_played.1 ∈ ev_T := (ev_t8 38 rfl rfl)
theorem lbX11_told : ev_LB mX11_told 2 := ⟨iw_WithoutEModel, (ev_t8 63 rfl rfl), by decide +kernel, by decide +kernel⟩
theorem imX11_told : Cond.instanceMethod mX11_told.1 ∈ ev_T := (ev_t8 61 rfl rfl)
theorem seX11_told : Cond.selects mX11_told.1.cls mX11_told.1 mX11_told.1 ∈ ev_T := (ev_t8 62 rfl rfl)
theorem lbX11_stiff : ev_LB mX11_stiff 1 := ⟨iw_WithoutEModel, (ev_t8 67 rfl rfl), by decide +kernel, by decide +kernel⟩
theorem imX11_stiff : Cond.instanceMethod mX11_stiff.1 ∈ ev_T := (ev_t8 65 rfl rfl)
theorem seX11_stiff : Cond.selects mX11_stiff.1.cls mX11_stiff.1 mX11_stiff.1 ∈ ev_T := (ev_t8 66 rfl rfl)
theorem lbX11_is : ev_LB mX11_is 1 := ⟨iw_WithoutEModel, (ev_t8 71 rfl rfl), by decide +kernel, by decide +kernel⟩
theorem imX11_is : Cond.instanceMethod mX11_is.1 ∈ ev_T := (ev_t8 69 rfl rfl)
theorem seX11_is : Cond.selects mX11_is.1.cls mX11_is.1 mX11_is.1 ∈ ev_T := (ev_t8 70 rfl rfl)
theorem lbX11_use : ev_LB mX11_use 1 := ⟨iw_WithoutEModel, (ev_t8 75 rfl rfl), by decide +kernel, by decide +kernel⟩
theorem imX11_use : Cond.instanceMethod mX11_use.1 ∈ ev_T := (ev_t8 73 rfl rfl)
theorem seX11_use : Cond.selects mX11_use.1.cls mX11_use.1 mX11_use.1 ∈ ev_T := (ev_t8 74 rfl rfl)
theorem lbX11_book : ev_LB mX11_book 2 := ⟨iw_WithoutEModel, (ev_t8 79 rfl rfl), by decide +kernel, by decide +kernel⟩
theorem imX11_book : Cond.instanceMethod mX11_book.1 ∈ ev_T := (ev_t8 77 rfl rfl)
theorem seX11_book : Cond.selects mX11_book.1.cls mX11_book.1 mX11_book.1 ∈ ev_T := (ev_t8 78 rfl rfl)
theorem lbX11_status : ev_LB mX11_status 1 := ⟨iw_WithoutEModel, (ev_t8 84 rfl rfl), by decide +kernel, by decide +kernel⟩
theorem imX11_status : Cond.instanceMethod mX11_status.1 ∈ ev_T := (ev_t8 82 rfl rfl)
theorem seX11_status : Cond.selects mX11_status.1.cls mX11_status.1 mX11_status.1 ∈ ev_T := (ev_t8 83 rfl rfl)
theorem lbX11_least : ev_LB mX11_least 2 := ⟨iw_WithoutEModel, (ev_t8 88 rfl rfl), by decide +kernel, by decide +kernel⟩
theorem imX11_least : Cond.instanceMethod mX11_least.1 ∈ ev_T := (ev_t8 86 rfl rfl)
theorem seX11_least : Cond.selects mX11_least.1.cls mX11_least.1 mX11_least.1 ∈ ev_T := (ev_t8 87 rfl rfl)
theorem lbX11_sentence : ev_LB mX11_sentence 2 := ⟨iw_WithoutEModel, (ev_t8 96 rfl rfl), by decide +kernel, by decide +kernel⟩
theorem imX11_sentence : Cond.instanceMethod mX11_sentence.1 ∈ ev_T := (ev_t8 94 rfl rfl)
theorem seX11_sentence : Cond.selects mX11_sentence.1.cls mX11_sentence.1 mX11_sentence.1 ∈ ev_T := (ev_t8 95 rfl rfl)
theorem lbX11_layUpTo : ev_LB mX11_layUpTo 2 := ⟨iw_WithoutEModel, (ev_t8 104 rfl rfl), by decide +kernel, by decide +kernel⟩
theorem imX11_layUpTo : Cond.instanceMethod mX11_layUpTo.1 ∈ ev_T := (ev_t8 103 rfl rfl)
theorem seX11_layUpTo : Cond.selects mX11_layUpTo.1.cls mX11_layUpTo.1 mX11_layUpTo.1 ∈ ev_T := (ev_pi 130 (by decide +kernel) rfl)
theorem lbX11_states : ev_LB mX11_states 3 := ⟨iw_WithoutEModel, (ev_t8 100 rfl rfl), by decide +kernel, by decide +kernel⟩
theorem imX11_states : Cond.instanceMethod mX11_states.1 ∈ ev_T := (ev_t8 98 rfl rfl)
theorem seX11_states : Cond.selects mX11_states.1.cls mX11_states.1 mX11_states.1 ∈ ev_T := (ev_t8 99 rfl rfl)
theorem lbX11_none : ev_LB mX11_none 0 := ⟨iw_WithoutEModel, (ev_t8 108 rfl rfl), by decide +kernel, by decide +kernel⟩
theorem imX11_none : Cond.instanceMethod mX11_none.1 ∈ ev_T := (ev_t8 106 rfl rfl)
theorem seX11_none : Cond.selects mX11_none.1.cls mX11_none.1 mX11_none.1 ∈ ev_T := (ev_t8 107 rfl rfl)
theorem lbX11_totalWith : ev_LB mX11_totalWith 1 := ⟨iw_WithoutEModel, (ev_t8 116 rfl rfl), by decide +kernel, by decide +kernel⟩
theorem imX11_totalWith : Cond.instanceMethod mX11_totalWith.1 ∈ ev_T := (ev_t8 115 rfl rfl)
theorem seX11_totalWith : Cond.selects mX11_totalWith.1.cls mX11_totalWith.1 mX11_totalWith.1 ∈ ev_T := (ev_pi 131 (by decide +kernel) rfl)
theorem lbX11_worst : ev_LB mX11_worst 0 := ⟨iw_WithoutEModel, (ev_t8 112 rfl rfl), by decide +kernel, by decide +kernel⟩
theorem imX11_worst : Cond.instanceMethod mX11_worst.1 ∈ ev_T := (ev_t8 110 rfl rfl)
theorem seX11_worst : Cond.selects mX11_worst.1.cls mX11_worst.1 mX11_worst.1 ∈ ev_T := (ev_t8 111 rfl rfl)
theorem lbX11_few : ev_LB mX11_few 1 := ⟨iw_WithoutEModel, (ev_t8 120 rfl rfl), by decide +kernel, by decide +kernel⟩
theorem imX11_few : Cond.instanceMethod mX11_few.1 ∈ ev_T := (ev_t8 118 rfl rfl)
theorem seX11_few : Cond.selects mX11_few.1.cls mX11_few.1 mX11_few.1 ∈ ev_T := (ev_t8 119 rfl rfl)
theorem lbX11_layNows : ev_LB mX11_layNows 0 := ⟨iw_WithoutEModel, (ev_t8 128 rfl rfl), by decide +kernel, by decide +kernel⟩
theorem imX11_layNows : Cond.instanceMethod mX11_layNows.1 ∈ ev_T := (ev_t8 127 rfl rfl)
theorem seX11_layNows : Cond.selects mX11_layNows.1.cls mX11_layNows.1 mX11_layNows.1 ∈ ev_T := (ev_pi 132 (by decide +kernel) rfl)
theorem lbX11_now : ev_LB mX11_now 1 := ⟨iw_WithoutEModel, (ev_t8 124 rfl rfl), by decide +kernel, by decide +kernel⟩
theorem imX11_now : Cond.instanceMethod mX11_now.1 ∈ ev_T := (ev_t8 122 rfl rfl)
theorem seX11_now : Cond.selects mX11_now.1.cls mX11_now.1 mX11_now.1 ∈ ev_T := (ev_t8 123 rfl rfl)
theorem lbX11_spare : ev_LB mX11_spare 0 := ⟨iw_WithoutEModel, (ev_t8 132 rfl rfl), by decide +kernel, by decide +kernel⟩
theorem imX11_spare : Cond.instanceMethod mX11_spare.1 ∈ ev_T := (ev_t8 130 rfl rfl)
theorem seX11_spare : Cond.selects mX11_spare.1.cls mX11_spare.1 mX11_spare.1 ∈ ev_T := (ev_t8 131 rfl rfl)
theorem lbX11_exact : ev_LB mX11_exact 1 := ⟨iw_WithoutEModel, (ev_t8 136 rfl rfl), by decide +kernel, by decide +kernel⟩
theorem imX11_exact : Cond.instanceMethod mX11_exact.1 ∈ ev_T := (ev_t8 134 rfl rfl)
theorem seX11_exact : Cond.selects mX11_exact.1.cls mX11_exact.1 mX11_exact.1 ∈ ev_T := (ev_t8 135 rfl rfl)
theorem lbX11_longer : ev_LB mX11_longer 0 := ⟨iw_WithoutEModel, (ev_t8 140 rfl rfl), by decide +kernel, by decide +kernel⟩
theorem imX11_longer : Cond.instanceMethod mX11_longer.1 ∈ ev_T := (ev_t8 138 rfl rfl)
theorem seX11_longer : Cond.selects mX11_longer.1.cls mX11_longer.1 mX11_longer.1 ∈ ev_T := (ev_t8 139 rfl rfl)
theorem lbX11_layLines : ev_LB mX11_layLines 0 := ⟨iw_WithoutEModel, (ev_t8 148 rfl rfl), by decide +kernel, by decide +kernel⟩
theorem imX11_layLines : Cond.instanceMethod mX11_layLines.1 ∈ ev_T := (ev_t8 147 rfl rfl)
theorem seX11_layLines : Cond.selects mX11_layLines.1.cls mX11_layLines.1 mX11_layLines.1 ∈ ev_T := (ev_pi 133 (by decide +kernel) rfl)
theorem lbX11_common : ev_LB mX11_common 2 := ⟨iw_WithoutEModel, (ev_t8 164 rfl rfl), by decide +kernel, by decide +kernel⟩
theorem stX11_common : Cond.static mX11_common.1 ∈ ev_T := (ev_t8 163 rfl rfl)
theorem lbX11_unseen : ev_LB mX11_unseen 1 := ⟨iw_WithoutEModel, (ev_t8 161 rfl rfl), by decide +kernel, by decide +kernel⟩
theorem imX11_unseen : Cond.instanceMethod mX11_unseen.1 ∈ ev_T := (ev_t8 160 rfl rfl)
theorem seX11_unseen : Cond.selects mX11_unseen.1.cls mX11_unseen.1 mX11_unseen.1 ∈ ev_T := (ev_pi 135 (by decide +kernel) rfl)
theorem lbX11_tens : ev_LB mX11_tens 1 := ⟨iw_WithoutEModel, (ev_t8 156 rfl rfl), by decide +kernel, by decide +kernel⟩
theorem stX11_tens : Cond.static mX11_tens.1 ∈ ev_T := (ev_t8 155 rfl rfl)
theorem lbX11_notices : ev_LB mX11_notices 2 := ⟨iw_WithoutEModel, (ev_t8 144 rfl rfl), by decide +kernel, by decide +kernel⟩
theorem imX11_notices : Cond.instanceMethod mX11_notices.1 ∈ ev_T := (ev_t8 142 rfl rfl)
theorem seX11_notices : Cond.selects mX11_notices.1.cls mX11_notices.1 mX11_notices.1 ∈ ev_T := (ev_t8 143 rfl rfl)
theorem lbX11_lines : ev_LB mX11_lines 1 := ⟨iw_WithoutEModel, (ev_t8 168 rfl rfl), by decide +kernel, by decide +kernel⟩
theorem imX11_lines : Cond.instanceMethod mX11_lines.1 ∈ ev_T := (ev_t8 166 rfl rfl)
theorem seX11_lines : Cond.selects mX11_lines.1.cls mX11_lines.1 mX11_lines.1 ∈ ev_T := (ev_t8 167 rfl rfl)
theorem lbX11_held : ev_LB mX11_held 0 := ⟨iw_WithoutEModel, (ev_t8 173 rfl rfl), by decide +kernel, by decide +kernel⟩
theorem imX11_held : Cond.instanceMethod mX11_held.1 ∈ ev_T := (ev_t8 171 rfl rfl)
theorem seX11_held : Cond.selects mX11_held.1.cls mX11_held.1 mX11_held.1 ∈ ev_T := (ev_t8 172 rfl rfl)
theorem lbX11_page : ev_LB mX11_page 1 := ⟨iw_WithoutEModel, (ev_t8 177 rfl rfl), by decide +kernel, by decide +kernel⟩
theorem imX11_page : Cond.instanceMethod mX11_page.1 ∈ ev_T := (ev_t8 175 rfl rfl)
theorem seX11_page : Cond.selects mX11_page.1.cls mX11_page.1 mX11_page.1 ∈ ev_T := (ev_t8 176 rfl rfl)
theorem lbX11_lettersOf : ev_LB mX11_lettersOf 1 := ⟨iw_WithoutEModel, (ev_t8 190 rfl rfl), by decide +kernel, by decide +kernel⟩
theorem imX11_lettersOf : Cond.instanceMethod mX11_lettersOf.1 ∈ ev_T := (ev_t8 189 rfl rfl)
theorem seX11_lettersOf : Cond.selects mX11_lettersOf.1.cls mX11_lettersOf.1 mX11_lettersOf.1 ∈ ev_T := (ev_pi 137 (by decide +kernel) rfl)
theorem lbX11_mayBeLost : ev_LB mX11_mayBeLost 0 := ⟨iw_WithoutEModel, (ev_t8 185 rfl rfl), by decide +kernel, by decide +kernel⟩
theorem imX11_mayBeLost : Cond.instanceMethod mX11_mayBeLost.1 ∈ ev_T := (ev_t8 184 rfl rfl)
theorem seX11_mayBeLost : Cond.selects mX11_mayBeLost.1.cls mX11_mayBeLost.1 mX11_mayBeLost.1 ∈ ev_T := (ev_pi 136 (by decide +kernel) rfl)
theorem lbX11_wrote : ev_LB mX11_wrote 1 := ⟨iw_WithoutEModel, (ev_t8 181 rfl rfl), by decide +kernel, by decide +kernel⟩
theorem imX11_wrote : Cond.instanceMethod mX11_wrote.1 ∈ ev_T := (ev_t8 179 rfl rfl)
theorem seX11_wrote : Cond.selects mX11_wrote.1.cls mX11_wrote.1 mX11_wrote.1 ∈ ev_T := (ev_t8 180 rfl rfl)
theorem lbX11_fewest : ev_LB mX11_fewest 0 := ⟨iw_WithoutEModel, (ev_t8 194 rfl rfl), by decide +kernel, by decide +kernel⟩
theorem imX11_fewest : Cond.instanceMethod mX11_fewest.1 ∈ ev_T := (ev_t8 192 rfl rfl)
theorem seX11_fewest : Cond.selects mX11_fewest.1.cls mX11_fewest.1 mX11_fewest.1 ∈ ev_T := (ev_t8 193 rfl rfl)
theorem lbX11_letters : ev_LB mX11_letters 1 := ⟨iw_WithoutEModel, (ev_t8 198 rfl rfl), by decide +kernel, by decide +kernel⟩
theorem imX11_letters : Cond.instanceMethod mX11_letters.1 ∈ ev_T := (ev_t8 196 rfl rfl)
theorem seX11_letters : Cond.selects mX11_letters.1.cls mX11_letters.1 mX11_letters.1 ∈ ev_T := (ev_t8 197 rfl rfl)
theorem lbX11_lot : ev_LB mX11_lot 1 := ⟨iw_WithoutEModel, (ev_t8 202 rfl rfl), by decide +kernel, by decide +kernel⟩
theorem imX11_lot : Cond.instanceMethod mX11_lot.1 ∈ ev_T := (ev_t8 200 rfl rfl)
theorem seX11_lot : Cond.selects mX11_lot.1.cls mX11_lot.1 mX11_lot.1 ∈ ev_T := (ev_t8 201 rfl rfl)
theorem lbX11_penceOf : ev_LB mX11_penceOf 1 := ⟨iw_WithoutEModel, (ev_t8 210 rfl rfl), by decide +kernel, by decide +kernel⟩
theorem imX11_penceOf : Cond.instanceMethod mX11_penceOf.1 ∈ ev_T := (ev_t8 209 rfl rfl)
theorem seX11_penceOf : Cond.selects mX11_penceOf.1.cls mX11_penceOf.1 mX11_penceOf.1 ∈ ev_T := (ev_pi 138 (by decide +kernel) rfl)
theorem lbX11_wire : ev_LB mX11_wire 1 := ⟨iw_WithoutEModel, (ev_t8 206 rfl rfl), by decide +kernel, by decide +kernel⟩
theorem imX11_wire : Cond.instanceMethod mX11_wire.1 ∈ ev_T := (ev_t8 204 rfl rfl)
theorem seX11_wire : Cond.selects mX11_wire.1.cls mX11_wire.1 mX11_wire.1 ∈ ev_T := (ev_t8 205 rfl rfl)
theorem lbX11_worth : ev_LB mX11_worth 1 := ⟨iw_WithoutEModel, (ev_t8 214 rfl rfl), by decide +kernel, by decide +kernel⟩
theorem imX11_worth : Cond.instanceMethod mX11_worth.1 ∈ ev_T := (ev_t8 212 rfl rfl)
theorem seX11_worth : Cond.selects mX11_worth.1.cls mX11_worth.1 mX11_worth.1 ∈ ev_T := (ev_t8 213 rfl rfl)
theorem lbX11_sumOf : ev_LB mX11_sumOf 2 := ⟨iw_WithoutEModel, (ev_t8 222 rfl rfl), by decide +kernel, by decide +kernel⟩
theorem stX11_sumOf : Cond.static mX11_sumOf.1 ∈ ev_T := (ev_t8 221 rfl rfl)
theorem lbX11_line : ev_LB mX11_line 2 := ⟨iw_WithoutEModel, (ev_t8 219 rfl rfl), by decide +kernel, by decide +kernel⟩
theorem imX11_line : Cond.instanceMethod mX11_line.1 ∈ ev_T := (ev_t8 217 rfl rfl)
theorem seX11_line : Cond.selects mX11_line.1.cls mX11_line.1 mX11_line.1 ∈ ev_T := (ev_t8 218 rfl rfl)
theorem lbX11_senses : ev_LB mX11_senses 0 := ⟨iw_WithoutEModel, (ev_t8 226 rfl rfl), by decide +kernel, by decide +kernel⟩
theorem imX11_senses : Cond.instanceMethod mX11_senses.1 ∈ ev_T := (ev_t8 224 rfl rfl)
theorem seX11_senses : Cond.selects mX11_senses.1.cls mX11_senses.1 mX11_senses.1 ∈ ev_T := (ev_t8 225 rfl rfl)
theorem lbX11_all : ev_LB mX11_all 0 := ⟨iw_WithoutEModel, (ev_t8 230 rfl rfl), by decide +kernel, by decide +kernel⟩
theorem imX11_all : Cond.instanceMethod mX11_all.1 ∈ ev_T := (ev_t8 228 rfl rfl)
theorem seX11_all : Cond.selects mX11_all.1.cls mX11_all.1 mX11_all.1 ∈ ev_T := (ev_t8 229 rfl rfl)
theorem lbX11_report : ev_LB mX11_report 0 := ⟨iw_WithoutEModel, (ev_t8 235 rfl rfl), by decide +kernel, by decide +kernel⟩
theorem imX11_report : Cond.instanceMethod mX11_report.1 ∈ ev_T := (ev_t8 233 rfl rfl)
theorem seX11_report : Cond.selects mX11_report.1.cls mX11_report.1 mX11_report.1 ∈ ev_T := (ev_t8 234 rfl rfl)
theorem lbX11_clear : ev_LB mX11_clear 0 := ⟨iw_WithoutEModel, (ev_t8 239 rfl rfl), by decide +kernel, by decide +kernel⟩
theorem imX11_clear : Cond.instanceMethod mX11_clear.1 ∈ ev_T := (ev_t8 237 rfl rfl)
theorem seX11_clear : Cond.selects mX11_clear.1.cls mX11_clear.1 mX11_clear.1 ∈ ev_T := (ev_t8 238 rfl rfl)
theorem lbX11_isMeant : ev_LB mX11_isMeant 2 := ⟨iw_WithoutEModel, (ev_t9 7 rfl rfl), by decide +kernel, by decide +kernel⟩
theorem imX11_isMeant : Cond.instanceMethod mX11_isMeant.1 ∈ ev_T := (ev_t9 6 rfl rfl)
theorem seX11_isMeant : Cond.selects mX11_isMeant.1.cls mX11_isMeant.1 mX11_isMeant.1 ∈ ev_T := (ev_pi 139 (by decide +kernel) rfl)
theorem lbX11_meant : ev_LB mX11_meant 1 := ⟨iw_WithoutEModel, (ev_t9 3 rfl rfl), by decide +kernel, by decide +kernel⟩
theorem imX11_meant : Cond.instanceMethod mX11_meant.1 ∈ ev_T := (ev_t9 1 rfl rfl)
theorem seX11_meant : Cond.selects mX11_meant.1.cls mX11_meant.1 mX11_meant.1 ∈ ev_T := (ev_t9 2 rfl rfl)
theorem lbX11_isFitting : ev_LB mX11_isFitting 1 := ⟨iw_WithoutEModel, (ev_t9 15 rfl rfl), by decide +kernel, by decide +kernel⟩
theorem imX11_isFitting : Cond.instanceMethod mX11_isFitting.1 ∈ ev_T := (ev_t9 14 rfl rfl)
theorem seX11_isFitting : Cond.selects mX11_isFitting.1.cls mX11_isFitting.1 mX11_isFitting.1 ∈ ev_T := (ev_pi 140 (by decide +kernel) rfl)
theorem lbX11_fits : ev_LB mX11_fits 0 := ⟨iw_WithoutEModel, (ev_t9 11 rfl rfl), by decide +kernel, by decide +kernel⟩
theorem imX11_fits : Cond.instanceMethod mX11_fits.1 ∈ ev_T := (ev_t9 9 rfl rfl)
theorem seX11_fits : Cond.selects mX11_fits.1.cls mX11_fits.1 mX11_fits.1 ∈ ev_T := (ev_t9 10 rfl rfl)
theorem lbX11_stiffs : ev_LB mX11_stiffs 2 := ⟨iw_WithoutEModel, (ev_t9 19 rfl rfl), by decide +kernel, by decide +kernel⟩
theorem imX11_stiffs : Cond.instanceMethod mX11_stiffs.1 ∈ ev_T := (ev_t9 17 rfl rfl)
theorem seX11_stiffs : Cond.selects mX11_stiffs.1.cls mX11_stiffs.1 mX11_stiffs.1 ∈ ev_T := (ev_t9 18 rfl rfl)
theorem lbX11_law : ev_LB mX11_law 0 := ⟨iw_WithoutEModel, (ev_t9 23 rfl rfl), by decide +kernel, by decide +kernel⟩
theorem imX11_law : Cond.instanceMethod mX11_law.1 ∈ ev_T := (ev_t9 21 rfl rfl)
theorem seX11_law : Cond.selects mX11_law.1.cls mX11_law.1 mX11_law.1 ∈ ev_T := (ev_t9 22 rfl rfl)
theorem lbX11_image : ev_LB mX11_image 0 := ⟨iw_WithoutEModel, (ev_t9 27 rfl rfl), by decide +kernel, by decide +kernel⟩
theorem imX11_image : Cond.instanceMethod mX11_image.1 ∈ ev_T := (ev_t9 25 rfl rfl)
theorem seX11_image : Cond.selects mX11_image.1.cls mX11_image.1 mX11_image.1 ∈ ev_T := (ev_t9 26 rfl rfl)
theorem lbX11_restore : ev_LB mX11_restore 0 := ⟨iw_WithoutEModel, (ev_t9 31 rfl rfl), by decide +kernel, by decide +kernel⟩
theorem imX11_restore : Cond.instanceMethod mX11_restore.1 ∈ ev_T := (ev_t9 29 rfl rfl)
theorem seX11_restore : Cond.selects mX11_restore.1.cls mX11_restore.1 mX11_restore.1 ∈ ev_T := (ev_t9 30 rfl rfl)
theorem lbX11_about : ev_LB mX11_about 1 := ⟨iw_WithoutEModel, (ev_t9 35 rfl rfl), by decide +kernel, by decide +kernel⟩
theorem imX11_about : Cond.instanceMethod mX11_about.1 ∈ ev_T := (ev_t9 33 rfl rfl)
theorem seX11_about : Cond.selects mX11_about.1.cls mX11_about.1 mX11_about.1 ∈ ev_T := (ev_t9 34 rfl rfl)
theorem lbJ6_bitCount_0f7a4 : ev_LB mJ6_bitCount_0f7a4 1 := ⟨iw_java_lang_Integer, (ev_t4 53 rfl rfl), by decide +kernel, by decide +kernel⟩
theorem stJ6_bitCount_0f7a4 : Cond.static mJ6_bitCount_0f7a4.1 ∈ ev_T := (ev_t4 52 rfl rfl)
theorem lbJ9_max_f86c9 : ev_LB mJ9_max_f86c9 2 := ⟨iw_java_lang_Math, (ev_t5 112 rfl rfl), by decide +kernel, by decide +kernel⟩
theorem stJ9_max_f86c9 : Cond.static mJ9_max_f86c9.1 ∈ ev_T := (ev_t5 111 rfl rfl)
theorem lbJ9_min_7cf53 : ev_LB mJ9_min_7cf53 2 := ⟨iw_java_lang_Math, (ev_t3 97 rfl rfl), by decide +kernel, by decide +kernel⟩
theorem stJ9_min_7cf53 : Cond.static mJ9_min_7cf53.1 ∈ ev_T := (ev_t3 96 rfl rfl)
theorem lbJ0_length_8abf5 : ev_LB mJ0_length_8abf5 0 := ⟨iw_java_lang_String, (ev_t3 22 rfl rfl), by decide +kernel, by decide +kernel⟩
theorem imJ0_length_8abf5 : Cond.instanceMethod mJ0_length_8abf5.1 ∈ ev_T := (ev_t3 20 rfl rfl)
theorem seJ0_length_8abf5 : Cond.selects mJ0_length_8abf5.1.cls mJ0_length_8abf5.1 mJ0_length_8abf5.1 ∈ ev_T := (ev_t3 21 rfl rfl)
theorem lbJ0_charAt_5068e : ev_LB mJ0_charAt_5068e 1 := ⟨iw_java_lang_String, (ev_t3 32 rfl rfl), by decide +kernel, by decide +kernel⟩
theorem imJ0_charAt_5068e : Cond.instanceMethod mJ0_charAt_5068e.1 ∈ ev_T := (ev_t3 30 rfl rfl)
theorem seJ0_charAt_5068e : Cond.selects mJ0_charAt_5068e.1.cls mJ0_charAt_5068e.1 mJ0_charAt_5068e.1 ∈ ev_T := (ev_t3 31 rfl rfl)
theorem lbJ0_coder_7d493 : ev_LB mJ0_coder_7d493 0 := ⟨iw_java_lang_String, (ev_t3 26 rfl rfl), by decide +kernel, by decide +kernel⟩
theorem imJ0_coder_7d493 : Cond.instanceMethod mJ0_coder_7d493.1 ∈ ev_T := (ev_t3 24 rfl rfl)
theorem seJ0_coder_7d493 : Cond.selects mJ0_coder_7d493.1.cls mJ0_coder_7d493.1 mJ0_coder_7d493.1 ∈ ev_T := (ev_t3 25 rfl rfl)
theorem lbJ0_isLatin1_aae02 : ev_LB mJ0_isLatin1_aae02 0 := ⟨iw_java_lang_String, (ev_t3 36 rfl rfl), by decide +kernel, by decide +kernel⟩
theorem imJ0_isLatin1_aae02 : Cond.instanceMethod mJ0_isLatin1_aae02.1 ∈ ev_T := (ev_t3 34 rfl rfl)
theorem seJ0_isLatin1_aae02 : Cond.selects mJ0_isLatin1_aae02.1.cls mJ0_isLatin1_aae02.1 mJ0_isLatin1_aae02.1 ∈ ev_T := (ev_t3 35 rfl rfl)
theorem lbJ0_checkIndex_df160 : ev_LB mJ0_checkIndex_df160 2 := ⟨iw_java_lang_String, (ev_t3 42 rfl rfl), by decide +kernel, by decide +kernel⟩
theorem stJ0_checkIndex_df160 : Cond.static mJ0_checkIndex_df160.1 ∈ ev_T := (ev_t3 41 rfl rfl)
theorem lbJ1_charAt_3b067 : ev_LB mJ1_charAt_3b067 2 := ⟨iw_java_lang_StringLatin1, (ev_t3 39 rfl rfl), by decide +kernel, by decide +kernel⟩
theorem stJ1_charAt_3b067 : Cond.static mJ1_charAt_3b067.1 ∈ ev_T := (ev_t3 38 rfl rfl)
theorem lbJ2_getChar_3b067 : ev_LB mJ2_getChar_3b067 2 := ⟨iw_java_lang_StringUTF16, (ev_t3 60 rfl rfl), by decide +kernel, by decide +kernel⟩
theorem stJ2_getChar_3b067 : Cond.static mJ2_getChar_3b067.1 ∈ ev_T := (ev_t3 59 rfl rfl)
theorem lbJ2_length_9d52b : ev_LB mJ2_length_9d52b 1 := ⟨iw_java_lang_StringUTF16, (ev_t3 56 rfl rfl), by decide +kernel, by decide +kernel⟩
theorem stJ2_length_9d52b : Cond.static mJ2_length_9d52b.1 ∈ ev_T := (ev_t3 55 rfl rfl)
theorem lbJ2_charAt_3b067 : ev_LB mJ2_charAt_3b067 2 := ⟨iw_java_lang_StringUTF16, (ev_t3 50 rfl rfl), by decide +kernel, by decide +kernel⟩
theorem stJ2_charAt_3b067 : Cond.static mJ2_charAt_3b067.1 ∈ ev_T := (ev_t3 49 rfl rfl)
theorem lbJ2_checkIndex_2214a : ev_LB mJ2_checkIndex_2214a 2 := ⟨iw_java_lang_StringUTF16, (ev_t3 53 rfl rfl), by decide +kernel, by decide +kernel⟩
theorem stJ2_checkIndex_2214a : Cond.static mJ2_checkIndex_2214a.1 ∈ ev_T := (ev_t3 52 rfl rfl)
theorem lbJ7_fill_53178 : ev_LB mJ7_fill_53178 2 := ⟨iw_java_util_Arrays, (ev_t1 158 rfl rfl), by decide +kernel, by decide +kernel⟩
theorem stJ7_fill_53178 : Cond.static mJ7_fill_53178.1 ∈ ev_T := (ev_t1 157 rfl rfl)
theorem lbJ3_checkIndex_8e157 : ev_LB mJ3_checkIndex_8e157 3 := ⟨iw_jdk_internal_util_Preconditions, (ev_t3 47 rfl rfl), by decide +kernel, by decide +kernel⟩
theorem stJ3_checkIndex_8e157 : Cond.static mJ3_checkIndex_8e157.1 ∈ ev_T := (ev_t3 46 rfl rfl)
theorem ml_WithoutE_Notes_39 : ev_LS "WithoutE$Notes" 39 mJ7_fill_53178 2 := ⟨lbJ7_fill_53178, (ev_t1 156 rfl rfl), stJ7_fill_53178⟩
theorem ml_WithoutE_106 : ev_LV "WithoutE" 106 mX7_put 1 := ⟨lbX7_put, (ev_t2 222 rfl rfl), imX7_put, seX7_put⟩
theorem ml_WithoutE_112 : ev_LV "WithoutE" 112 mX4_read 1 := ⟨lbX4_read, (ev_t2 234 rfl rfl), imX4_read, seX4_read⟩
theorem ml_WithoutE_Reader_23 : ev_LV "WithoutE$Reader" 23 mX8_empty 0 := ⟨lbX8_empty, (ev_t2 238 rfl rfl), imX8_empty, seX8_empty⟩
theorem ml_WithoutE_Text_31 : ev_LS "WithoutE$Text" 31 mJ7_fill_53178 2 := ⟨lbJ7_fill_53178, (ev_t3 2 rfl rfl), stJ7_fill_53178⟩
theorem ml_WithoutE_Reader_38 : ev_LV "WithoutE$Reader" 38 mX4_advance 0 := ⟨lbX4_advance, (ev_t3 3 rfl rfl), imX4_advance, seX4_advance⟩
theorem ml_WithoutE_Reader_60 : ev_LS "WithoutE$Reader" 60 mX4_sortOf 1 := ⟨lbX4_sortOf, (ev_t3 7 rfl rfl), stX4_sortOf⟩
theorem ml_WithoutE_Reader_44 : ev_LV "WithoutE$Reader" 44 mX4_readClause 1 := ⟨lbX4_readClause, (ev_t3 10 rfl rfl), imX4_readClause, seX4_readClause⟩
theorem ml_WithoutE_Reader_88 : ev_LV "WithoutE$Reader" 88 mX4_rankIn 1 := ⟨lbX4_rankIn, (ev_t3 15 rfl rfl), imX4_rankIn, seX4_rankIn⟩
theorem ml_WithoutE_Reader_70 : ev_LV "WithoutE$Reader" 70 mJ0_length_8abf5 0 := ⟨lbJ0_length_8abf5, (ev_t3 19 rfl rfl), imJ0_length_8abf5, seJ0_length_8abf5⟩
theorem ml_java_lang_String_335 : ev_LV "java/lang/String" 335 mJ0_coder_7d493 0 := ⟨lbJ0_coder_7d493, (ev_t3 23 rfl rfl), imJ0_coder_7d493, seJ0_coder_7d493⟩
theorem ml_WithoutE_Reader_75 : ev_LV "WithoutE$Reader" 75 mJ0_charAt_5068e 1 := ⟨lbJ0_charAt_5068e, (ev_t3 29 rfl rfl), imJ0_charAt_5068e, seJ0_charAt_5068e⟩
theorem ml_java_lang_String_492 : ev_LV "java/lang/String" 492 mJ0_isLatin1_aae02 0 := ⟨lbJ0_isLatin1_aae02, (ev_t3 33 rfl rfl), imJ0_isLatin1_aae02, seJ0_isLatin1_aae02⟩
theorem ml_java_lang_String_495 : ev_LS "java/lang/String" 495 mJ1_charAt_3b067 2 := ⟨lbJ1_charAt_3b067, (ev_t3 37 rfl rfl), stJ1_charAt_3b067⟩
theorem ml_java_lang_StringLatin1_9 : ev_LS "java/lang/StringLatin1" 9 mJ0_checkIndex_df160 2 := ⟨lbJ0_checkIndex_df160, (ev_t3 40 rfl rfl), stJ0_checkIndex_df160⟩
theorem ml_java_lang_String_1059 : ev_LS "java/lang/String" 1059 mJ3_checkIndex_8e157 3 := ⟨lbJ3_checkIndex_8e157, (ev_t3 45 rfl rfl), stJ3_checkIndex_8e157⟩
theorem ml_java_lang_String_498 : ev_LS "java/lang/String" 498 mJ2_charAt_3b067 2 := ⟨lbJ2_charAt_3b067, (ev_t3 48 rfl rfl), stJ2_charAt_3b067⟩
theorem ml_java_lang_StringUTF16_67 : ev_LS "java/lang/StringUTF16" 67 mJ2_checkIndex_2214a 2 := ⟨lbJ2_checkIndex_2214a, (ev_t3 51 rfl rfl), stJ2_checkIndex_2214a⟩
theorem ml_java_lang_StringUTF16_48 : ev_LS "java/lang/StringUTF16" 48 mJ2_length_9d52b 1 := ⟨lbJ2_length_9d52b, (ev_t3 54 rfl rfl), stJ2_length_9d52b⟩
theorem ml_java_lang_StringUTF16_414 : ev_LS "java/lang/StringUTF16" 414 mJ0_checkIndex_df160 2 := ⟨lbJ0_checkIndex_df160, (ev_t3 57 rfl rfl), stJ0_checkIndex_df160⟩
theorem ml_java_lang_StringUTF16_71 : ev_LS "java/lang/StringUTF16" 71 mJ2_getChar_3b067 2 := ⟨lbJ2_getChar_3b067, (ev_t3 58 rfl rfl), stJ2_getChar_3b067⟩
theorem ml_WithoutE_Reader_79 : ev_LV "WithoutE$Reader" 79 mX4_fail 1 := ⟨lbX4_fail, (ev_t3 67 rfl rfl), imX4_fail, seX4_fail⟩
theorem ml_WithoutE_Reader_95 : ev_LV "WithoutE$Reader" 95 mX8_begin 1 := ⟨lbX8_begin, (ev_t3 71 rfl rfl), imX8_begin, seX8_begin⟩
theorem ml_WithoutE_Reader_102 : ev_LV "WithoutE$Reader" 102 mX4_readSum 1 := ⟨lbX4_readSum, (ev_t3 75 rfl rfl), imX4_readSum, seX4_readSum⟩
theorem ml_WithoutE_Reader_160 : ev_LV "WithoutE$Reader" 160 mX4_readProduct 1 := ⟨lbX4_readProduct, (ev_t3 79 rfl rfl), imX4_readProduct, seX4_readProduct⟩
theorem ml_WithoutE_Reader_163 : ev_LV "WithoutE$Reader" 163 mX4_readOne 1 := ⟨lbX4_readOne, (ev_t3 83 rfl rfl), imX4_readOne, seX4_readOne⟩
theorem ml_WithoutE_Reader_166 : ev_LV "WithoutE$Reader" 166 mX4_readPlainNumber 0 := ⟨lbX4_readPlainNumber, (ev_t3 87 rfl rfl), imX4_readPlainNumber, seX4_readPlainNumber⟩
theorem ml_WithoutE_Reader_141 : ev_LV "WithoutE$Reader" 141 mX4_number 0 := ⟨lbX4_number, (ev_t3 91 rfl rfl), imX4_number, seX4_number⟩
theorem ml_WithoutE_Reader_64 : ev_LS "WithoutE$Reader" 64 mJ9_min_7cf53 2 := ⟨lbJ9_min_7cf53, (ev_t3 95 rfl rfl), stJ9_min_7cf53⟩
theorem ml_WithoutE_Reader_144 : ev_LV "WithoutE$Reader" 144 mX8_put 1 := ⟨lbX8_put, (ev_t3 98 rfl rfl), imX8_put, seX8_put⟩
theorem ml_WithoutE_Reader_169 : ev_LV "WithoutE$Reader" 169 mX4_goDeeper 1 := ⟨lbX4_goDeeper, (ev_t3 102 rfl rfl), imX4_goDeeper, seX4_goDeeper⟩
theorem ml_WithoutE_Reader_111 : ev_LV "WithoutE$Reader" 111 mX4_expectSign 1 := ⟨lbX4_expectSign, (ev_t3 106 rfl rfl), imX4_expectSign, seX4_expectSign⟩
theorem ml_WithoutE_Reader_105 : ev_LV "WithoutE$Reader" 105 mX4_putOp 1 := ⟨lbX4_putOp, (ev_t3 110 rfl rfl), imX4_putOp, seX4_putOp⟩
theorem ml_WithoutE_Reader_82 : ev_LV "WithoutE$Reader" 82 mX4_isToken 1 := ⟨lbX4_isToken, (ev_t3 115 rfl rfl), imX4_isToken, seX4_isToken⟩
theorem ml_WithoutE_Reader_176 : ev_LV "WithoutE$Reader" 176 mX4_readChoice 1 := ⟨lbX4_readChoice, (ev_t3 120 rfl rfl), imX4_readChoice, seX4_readChoice⟩
theorem ml_WithoutE_Reader_187 : ev_LV "WithoutE$Reader" 187 mX4_readEither 1 := ⟨lbX4_readEither, (ev_t3 124 rfl rfl), imX4_readEither, seX4_readEither⟩
theorem ml_WithoutE_Reader_196 : ev_LV "WithoutE$Reader" 196 mX4_readBoth 1 := ⟨lbX4_readBoth, (ev_t3 128 rfl rfl), imX4_readBoth, seX4_readBoth⟩
theorem ml_WithoutE_Reader_201 : ev_LV "WithoutE$Reader" 201 mX4_readAsk 1 := ⟨lbX4_readAsk, (ev_t3 132 rfl rfl), imX4_readAsk, seX4_readAsk⟩
theorem ml_WithoutE_Reader_208 : ev_LV "WithoutE$Reader" 208 mX4_comparison 0 := ⟨lbX4_comparison, (ev_t3 137 rfl rfl), imX4_comparison, seX4_comparison⟩
theorem ml_WithoutE_Reader_120 : ev_LV "WithoutE$Reader" 120 mX4_expectToken 1 := ⟨lbX4_expectToken, (ev_t3 144 rfl rfl), imX4_expectToken, seX4_expectToken⟩
theorem ml_WithoutE_Reader_150 : ev_LV "WithoutE$Reader" 150 mX8_set 2 := ⟨lbX8_set, (ev_t3 149 rfl rfl), imX8_set, seX8_set⟩
theorem ml_WithoutE_Reader_179 : ev_LV "WithoutE$Reader" 179 mX4_readName 0 := ⟨lbX4_readName, (ev_t3 154 rfl rfl), imX4_readName, seX4_readName⟩
theorem ml_WithoutE_Reader_108 : ev_LV "WithoutE$Reader" 108 mX4_readDeed 1 := ⟨lbX4_readDeed, (ev_t3 161 rfl rfl), imX4_readDeed, seX4_readDeed⟩
theorem ml_WithoutE_Reader_114 : ev_LV "WithoutE$Reader" 114 mX4_readLetters 0 := ⟨lbX4_readLetters, (ev_t3 165 rfl rfl), imX4_readLetters, seX4_readLetters⟩
theorem ml_WithoutE_Reader_154 : ev_LV "WithoutE$Reader" 154 mX4_checkLetters 1 := ⟨lbX4_checkLetters, (ev_t3 169 rfl rfl), imX4_checkLetters, seX4_checkLetters⟩
theorem ml_WithoutE_Reader_123 : ev_LV "WithoutE$Reader" 123 mX4_readNumber 2 := ⟨lbX4_readNumber, (ev_t3 177 rfl rfl), imX4_readNumber, seX4_readNumber⟩
theorem ml_WithoutE_Reader_131 : ev_LV "WithoutE$Reader" 131 mX4_readSenses 0 := ⟨lbX4_readSenses, (ev_t3 183 rfl rfl), imX4_readSenses, seX4_readSenses⟩
theorem ml_WithoutE_Reader_134 : ev_LV "WithoutE$Reader" 134 mX4_readLetter 0 := ⟨lbX4_readLetter, (ev_t3 187 rfl rfl), imX4_readLetter, seX4_readLetter⟩
theorem ml_WithoutE_126 : ev_LV "WithoutE" 126 mX10_hasText 1 := ⟨lbX10_hasText, (ev_t3 202 rfl rfl), imX10_hasText, seX10_hasText⟩
theorem ml_WithoutE_136 : ev_LV "WithoutE" 136 mX10_playClause 2 := ⟨lbX10_playClause, (ev_t3 210 rfl rfl), imX10_playClause, seX10_playClause⟩
theorem ml_WithoutE_140 : ev_LV "WithoutE" 140 mX8_part 2 := ⟨lbX8_part, (ev_t3 214 rfl rfl), imX8_part, seX8_part⟩
theorem ml_WithoutE_153 : ev_LV "WithoutE" 153 mX10_addWord 6 := ⟨lbX10_addWord, (ev_t3 218 rfl rfl), imX10_addWord, seX10_addWord⟩
theorem ml_WithoutE_185 : ev_LV "WithoutE" 185 mX10_refuse 1 := ⟨lbX10_refuse, (ev_t3 222 rfl rfl), imX10_refuse, seX10_refuse⟩
theorem ml_WithoutE_211 : ev_LV "WithoutE" 211 mX0_tellWord 6 := ⟨lbX0_tellWord, (ev_t3 226 rfl rfl), imX0_tellWord, seX0_tellWord⟩
theorem ml_WithoutE_157 : ev_LV "WithoutE" 157 mX10_addSentence 3 := ⟨lbX10_addSentence, (ev_t3 230 rfl rfl), imX10_addSentence, seX10_addSentence⟩
theorem ml_WithoutE_265 : ev_LV "WithoutE" 265 mX0_tellSentence 3 := ⟨lbX0_tellSentence, (ev_t3 234 rfl rfl), imX0_tellSentence, seX0_tellSentence⟩
theorem ml_WithoutE_161 : ev_LV "WithoutE" 161 mX10_made 3 := ⟨lbX10_made, (ev_t3 238 rfl rfl), imX10_made, seX10_made⟩
theorem ml_WithoutE_214 : ev_LS "WithoutE" 214 mX10_isLetter 1 := ⟨lbX10_isLetter, (ev_t4 2 rfl rfl), stX10_isLetter⟩
theorem ml_WithoutE_165 : ev_LV "WithoutE" 165 mX10_key 1 := ⟨lbX10_key, (ev_t4 5 rfl rfl), imX10_key, seX10_key⟩
theorem ml_WithoutE_226 : ev_LS "WithoutE" 226 mX10_has 2 := ⟨lbX10_has, (ev_t4 9 rfl rfl), stX10_has⟩
theorem ml_WithoutE_230 : ev_LV "WithoutE" 230 mX9_markStep 0 := ⟨lbX9_markStep, (ev_t4 12 rfl rfl), imX9_markStep, seX9_markStep⟩
theorem ml_WithoutE_168 : ev_LV "WithoutE" 168 mX10_turn 1 := ⟨lbX10_turn, (ev_t4 19 rfl rfl), imX10_turn, seX10_turn⟩
theorem ml_WithoutE_191 : ev_LV "WithoutE" 191 mX0_hasWord 1 := ⟨lbX0_hasWord, (ev_t4 23 rfl rfl), imX0_hasWord, seX0_hasWord⟩
theorem ml_WithoutE_172 : ev_LV "WithoutE" 172 mX10_write 1 := ⟨lbX10_write, (ev_t4 27 rfl rfl), imX10_write, seX10_write⟩
theorem ml_WithoutE_233 : ev_LV "WithoutE" 233 mX0_hasSentence 1 := ⟨lbX0_hasSentence, (ev_t4 31 rfl rfl), imX0_hasSentence, seX0_hasSentence⟩
theorem ml_WithoutE_236 : ev_LV "WithoutE" 236 mX10_hearNow 0 := ⟨lbX10_hearNow, (ev_t4 35 rfl rfl), imX10_hearNow, seX10_hearNow⟩
theorem ml_WithoutE_342 : ev_LV "WithoutE" 342 mX6_forget 0 := ⟨lbX6_forget, (ev_t4 39 rfl rfl), imX6_forget, seX6_forget⟩
theorem ml_WithoutE_294 : ev_LV "WithoutE" 294 mX10_ruling 0 := ⟨lbX10_ruling, (ev_t4 43 rfl rfl), imX10_ruling, seX10_ruling⟩
theorem ml_WithoutE_345 : ev_LV "WithoutE" 345 mX6_suppose 2 := ⟨lbX6_suppose, (ev_t4 47 rfl rfl), imX6_suppose, seX6_suppose⟩
theorem ml_WithoutE_Speech_62 : ev_LS "WithoutE$Speech" 62 mJ6_bitCount_0f7a4 1 := ⟨lbJ6_bitCount_0f7a4, (ev_t4 51 rfl rfl), stJ6_bitCount_0f7a4⟩
theorem ml_WithoutE_Speech_68 : ev_LS "WithoutE$Speech" 68 mJ7_fill_53178 2 := ⟨lbJ7_fill_53178, (ev_t4 57 rfl rfl), stJ7_fill_53178⟩
theorem ml_WithoutE_Speech_79 : ev_LV "WithoutE$Speech" 79 mX5_canBe 2 := ⟨lbX5_canBe, (ev_t4 58 rfl rfl), imX5_canBe, seX5_canBe⟩
theorem ml_WithoutE_Sound_51 : ev_LV "WithoutE$Sound" 51 mX5_isMendable 2 := ⟨lbX5_isMendable, (ev_t4 63 rfl rfl), imX5_isMendable, seX5_isMendable⟩
theorem ml_WithoutE_Speech_85 : ev_LV "WithoutE$Speech" 85 mX5_holesOf 2 := ⟨lbX5_holesOf, (ev_t4 68 rfl rfl), imX5_holesOf, seX5_holesOf⟩
theorem ml_WithoutE_Speech_89 : ev_LV "WithoutE$Speech" 89 mX5_extraOf 2 := ⟨lbX5_extraOf, (ev_t4 72 rfl rfl), imX5_extraOf, seX5_extraOf⟩
theorem ml_WithoutE_Sound_39 : ev_LV "WithoutE$Sound" 39 mX5_holesOf 2 := ⟨lbX5_holesOf, (ev_t4 78 rfl rfl), imX5_holesOf, seX5_holesOf⟩
theorem ml_WithoutE_Sound_43 : ev_LV "WithoutE$Sound" 43 mX5_looksOf 2 := ⟨lbX5_looksOf, (ev_t4 79 rfl rfl), imX5_looksOf, seX5_looksOf⟩
theorem ml_WithoutE_Speech_92 : ev_LV "WithoutE$Speech" 92 mX1_stiffness 5 := ⟨lbX1_stiffness, (ev_t4 83 rfl rfl), imX1_stiffness, seX1_stiffness⟩
theorem ml_WithoutE_Laws_42 : ev_LV "WithoutE$Laws" 42 mX1_run 2 := ⟨lbX1_run, (ev_t4 87 rfl rfl), imX1_run, seX1_run⟩
theorem ml_WithoutE_Laws_74 : ev_LV "WithoutE$Laws" 74 mX1_pop 0 := ⟨lbX1_pop, (ev_t4 91 rfl rfl), imX1_pop, seX1_pop⟩
theorem ml_WithoutE_Laws_78 : ev_LV "WithoutE$Laws" 78 mX1_push 1 := ⟨lbX1_push, (ev_t4 95 rfl rfl), imX1_push, seX1_push⟩
theorem ml_WithoutE_Laws_82 : ev_LV "WithoutE$Laws" 82 mX1_usesOf 1 := ⟨lbX1_usesOf, (ev_t4 99 rfl rfl), imX1_usesOf, seX1_usesOf⟩
theorem ml_WithoutE_Laws_85 : ev_LS "WithoutE$Laws" 85 mX1_join 3 := ⟨lbX1_join, (ev_t4 103 rfl rfl), stX1_join⟩
theorem ml_WithoutE_Laws_89 : ev_LS "WithoutE$Laws" 89 mX1_clipped 1 := ⟨lbX1_clipped, (ev_t4 106 rfl rfl), stX1_clipped⟩
theorem ml_WithoutE_Laws_46 : ev_LS "WithoutE$Laws" 46 mX1_within 2 := ⟨lbX1_within, (ev_t4 113 rfl rfl), stX1_within⟩
theorem ml_WithoutE_239 : ev_LV "WithoutE" 239 mX6_speak 1 := ⟨lbX6_speak, (ev_t4 116 rfl rfl), imX6_speak, seX6_speak⟩
theorem ml_WithoutE_Speech_139 : ev_LV "WithoutE$Speech" 139 mX6_costOf 1 := ⟨lbX6_costOf, (ev_t4 120 rfl rfl), imX6_costOf, seX6_costOf⟩
theorem ml_WithoutE_Speech_100 : ev_LV "WithoutE$Speech" 100 mX6_fillCosts 3 := ⟨lbX6_fillCosts, (ev_t4 124 rfl rfl), imX6_fillCosts, seX6_fillCosts⟩
theorem ml_WithoutE_Speech_113 : ev_LV "WithoutE$Speech" 113 mX6_seeCosts 1 := ⟨lbX6_seeCosts, (ev_t4 128 rfl rfl), imX6_seeCosts, seX6_seeCosts⟩
theorem ml_WithoutE_Speech_123 : ev_LV "WithoutE$Speech" 123 mX2_start 0 := ⟨lbX2_start, (ev_t4 132 rfl rfl), imX2_start, seX2_start⟩
theorem ml_WithoutE_Speech_129 : ev_LV "WithoutE$Speech" 129 mX2_see 2 := ⟨lbX2_see, (ev_t4 137 rfl rfl), imX2_see, seX2_see⟩
theorem ml_WithoutE_Speech_120 : ev_LV "WithoutE$Speech" 120 mX6_leastBeside 2 := ⟨lbX6_leastBeside, (ev_t4 142 rfl rfl), imX6_leastBeside, seX6_leastBeside⟩
theorem ml_WithoutE_Speech_136 : ev_LV "WithoutE$Speech" 136 mX2_without 1 := ⟨lbX2_without, (ev_t4 146 rfl rfl), imX2_without, seX2_without⟩
theorem ml_WithoutE_Speech_105 : ev_LS "WithoutE$Speech" 105 mJ9_min_7cf53 2 := ⟨lbJ9_min_7cf53, (ev_t4 150 rfl rfl), stJ9_min_7cf53⟩
theorem ml_WithoutE_Speech_156 : ev_LV "WithoutE$Speech" 156 mX6_lowestBehind 2 := ⟨lbX6_lowestBehind, (ev_t4 151 rfl rfl), imX6_lowestBehind, seX6_lowestBehind⟩
theorem ml_WithoutE_Speech_165 : ev_LV "WithoutE$Speech" 165 mX6_costBetween 2 := ⟨lbX6_costBetween, (ev_t4 155 rfl rfl), imX6_costBetween, seX6_costBetween⟩
theorem ml_WithoutE_Speech_159 : ev_LV "WithoutE$Speech" 159 mX5_secondsOf 2 := ⟨lbX5_secondsOf, (ev_t4 159 rfl rfl), imX5_secondsOf, seX5_secondsOf⟩
theorem ml_WithoutE_242 : ev_LV "WithoutE" 242 mX10_typeSpoken 1 := ⟨lbX10_typeSpoken, (ev_t4 163 rfl rfl), imX10_typeSpoken, seX10_typeSpoken⟩
theorem ml_WithoutE_271 : ev_LV "WithoutE" 271 mX6_press 1 := ⟨lbX6_press, (ev_t4 167 rfl rfl), imX6_press, seX6_press⟩
theorem ml_WithoutE_Speech_168 : ev_LV "WithoutE$Speech" 168 mX5_keyFor 3 := ⟨lbX5_keyFor, (ev_t4 171 rfl rfl), imX5_keyFor, seX5_keyFor⟩
theorem ml_WithoutE_279 : ev_LS "WithoutE" 279 mJ9_min_7cf53 2 := ⟨lbJ9_min_7cf53, (ev_t4 175 rfl rfl), stJ9_min_7cf53⟩
theorem ml_WithoutE_284 : ev_LV "WithoutE" 284 mX9_note 3 := ⟨lbX9_note, (ev_t4 176 rfl rfl), imX9_note, seX9_note⟩
theorem ml_WithoutE_175 : ev_LV "WithoutE" 175 mX10_passDays 1 := ⟨lbX10_passDays, (ev_t4 180 rfl rfl), imX10_passDays, seX10_passDays⟩
theorem ml_WithoutE_288 : ev_LV "WithoutE" 288 mX10_wearSomeKey 0 := ⟨lbX10_wearSomeKey, (ev_t4 184 rfl rfl), imX10_wearSomeKey, seX10_wearSomeKey⟩
theorem ml_WithoutE_291 : ev_LV "WithoutE" 291 mX9_draw 1 := ⟨lbX9_draw, (ev_t4 188 rfl rfl), imX9_draw, seX9_draw⟩
theorem ml_WithoutE_298 : ev_LV "WithoutE" 298 mX1_wearOdds 3 := ⟨lbX1_wearOdds, (ev_t4 192 rfl rfl), imX1_wearOdds, seX1_wearOdds⟩
theorem ml_WithoutE_Laws_55 : ev_LS "WithoutE$Laws" 55 mJ6_bitCount_0f7a4 1 := ⟨lbJ6_bitCount_0f7a4, (ev_t4 196 rfl rfl), stJ6_bitCount_0f7a4⟩
theorem ml_WithoutE_178 : ev_LV "WithoutE" 178 mX7_spells 1 := ⟨lbX7_spells, (ev_t4 201 rfl rfl), imX7_spells, seX7_spells⟩
theorem ml_WithoutE_182 : ev_LS "WithoutE" 182 mX10_isSense 1 := ⟨lbX10_isSense, (ev_t4 206 rfl rfl), stX10_isSense⟩
theorem ml_WithoutE_251 : ev_LS "WithoutE" 251 mJ6_bitCount_0f7a4 1 := ⟨lbJ6_bitCount_0f7a4, (ev_t4 221 rfl rfl), stJ6_bitCount_0f7a4⟩
theorem ml_WithoutE_259 : ev_LV "WithoutE" 259 mX9_takeBack 0 := ⟨lbX9_takeBack, (ev_t4 226 rfl rfl), imX9_takeBack, seX9_takeBack⟩
theorem ml_WithoutE_302 : ev_LV "WithoutE" 302 mX5_holesOf 2 := ⟨lbX5_holesOf, (ev_t4 234 rfl rfl), imX5_holesOf, seX5_holesOf⟩
theorem ml_WithoutE_305 : ev_LV "WithoutE" 305 mX5_secondsOf 2 := ⟨lbX5_secondsOf, (ev_t4 235 rfl rfl), imX5_secondsOf, seX5_secondsOf⟩
theorem ml_WithoutE_308 : ev_LV "WithoutE" 308 mX5_canBe 2 := ⟨lbX5_canBe, (ev_t4 236 rfl rfl), imX5_canBe, seX5_canBe⟩
theorem ml_WithoutE_311 : ev_LV "WithoutE" 311 mX5_extraOf 2 := ⟨lbX5_extraOf, (ev_t4 237 rfl rfl), imX5_extraOf, seX5_extraOf⟩
theorem ml_WithoutE_314 : ev_LV "WithoutE" 314 mX10_stiffnessBy 2 := ⟨lbX10_stiffnessBy, (ev_t5 2 rfl rfl), imX10_stiffnessBy, seX10_stiffnessBy⟩
theorem ml_WithoutE_338 : ev_LV "WithoutE" 338 mX1_stiffness 5 := ⟨lbX1_stiffness, (ev_t5 6 rfl rfl), imX1_stiffness, seX1_stiffness⟩
theorem ml_WithoutE_318 : ev_LV "WithoutE" 318 mX10_speakNow 1 := ⟨lbX10_speakNow, (ev_t5 11 rfl rfl), imX10_speakNow, seX10_speakNow⟩
theorem ml_WithoutE_330 : ev_LV "WithoutE" 330 mX6_costUpTo 3 := ⟨lbX6_costUpTo, (ev_t5 23 rfl rfl), imX6_costUpTo, seX6_costUpTo⟩
theorem ml_WithoutE_335 : ev_LV "WithoutE" 335 mX6_costOf 1 := ⟨lbX6_costOf, (ev_t5 32 rfl rfl), imX6_costOf, seX6_costOf⟩
theorem ml_WithoutE_349 : ev_LV "WithoutE" 349 mX10_totalWith 1 := ⟨lbX10_totalWith, (ev_t5 37 rfl rfl), imX10_totalWith, seX10_totalWith⟩
theorem ml_WithoutE_352 : ev_LV "WithoutE" 352 mX10_countPresses 0 := ⟨lbX10_countPresses, (ev_t5 49 rfl rfl), imX10_countPresses, seX10_countPresses⟩
theorem ml_WithoutE_358 : ev_LS "WithoutE" 358 mJ7_fill_53178 2 := ⟨lbJ7_fill_53178, (ev_t5 53 rfl rfl), stJ7_fill_53178⟩
theorem ml_WithoutE_355 : ev_LV "WithoutE" 355 mX10_keyOfRank 1 := ⟨lbX10_keyOfRank, (ev_t5 54 rfl rfl), imX10_keyOfRank, seX10_keyOfRank⟩
theorem ml_WithoutE_364 : ev_LV "WithoutE" 364 mX10_keysAheadOf 1 := ⟨lbX10_keysAheadOf, (ev_t5 58 rfl rfl), imX10_keysAheadOf, seX10_keysAheadOf⟩
theorem ml_WithoutE_367 : ev_LV "WithoutE" 367 mX10_agreesWithHeard 1 := ⟨lbX10_agreesWithHeard, (ev_t5 78 rfl rfl), imX10_agreesWithHeard, seX10_agreesWithHeard⟩
theorem ml_WithoutE_381 : ev_LV "WithoutE" 381 mX10_waysUnnoticed 1 := ⟨lbX10_waysUnnoticed, (ev_t5 91 rfl rfl), imX10_waysUnnoticed, seX10_waysUnnoticed⟩
theorem ml_WithoutE_397 : ev_LV "WithoutE" 397 mX10_noticeOdds 1 := ⟨lbX10_noticeOdds, (ev_t5 95 rfl rfl), imX10_noticeOdds, seX10_noticeOdds⟩
theorem ml_WithoutE_400 : ev_LV "WithoutE" 400 mX1_noticeOdds 5 := ⟨lbX1_noticeOdds, (ev_t5 99 rfl rfl), imX1_noticeOdds, seX1_noticeOdds⟩
theorem ml_WithoutE_385 : ev_LS "WithoutE" 385 mX10_waysInAll 1 := ⟨lbX10_waysInAll, (ev_t5 103 rfl rfl), stX10_waysInAll⟩
theorem ml_WithoutE_388 : ev_LS "WithoutE" 388 mX10_sharedDivisor 2 := ⟨lbX10_sharedDivisor, (ev_t5 107 rfl rfl), stX10_sharedDivisor⟩
theorem ml_WithoutE_392 : ev_LS "WithoutE" 392 mJ9_max_f86c9 2 := ⟨lbJ9_max_f86c9, (ev_t5 110 rfl rfl), stJ9_max_f86c9⟩
theorem ml_WithoutE_410 : ev_LV "WithoutE" 410 mX10_keysOfPage 0 := ⟨lbX10_keysOfPage, (ev_t5 130 rfl rfl), imX10_keysOfPage, seX10_keysOfPage⟩
theorem ml_WithoutE_415 : ev_LV "WithoutE" 415 mX0_lettersOf 1 := ⟨lbX0_lettersOf, (ev_t5 134 rfl rfl), imX0_lettersOf, seX0_lettersOf⟩
theorem ml_WithoutE_418 : ev_LV "WithoutE" 418 mX5_isMendable 2 := ⟨lbX5_isMendable, (ev_t5 151 rfl rfl), imX5_isMendable, seX5_isMendable⟩
theorem ml_WithoutE_424 : ev_LS "WithoutE" 424 mX10_bitOfRank 2 := ⟨lbX10_bitOfRank, (ev_t5 152 rfl rfl), stX10_bitOfRank⟩
theorem ml_WithoutE_430 : ev_LV "WithoutE" 430 mX10_priceSentences 0 := ⟨lbX10_priceSentences, (ev_t5 167 rfl rfl), imX10_priceSentences, seX10_priceSentences⟩
theorem ml_WithoutE_433 : ev_LS "WithoutE" 433 mX10_sumOver 2 := ⟨lbX10_sumOver, (ev_t5 171 rfl rfl), stX10_sumOver⟩
theorem ml_WithoutE_437 : ev_LV "WithoutE" 437 mX10_senses 0 := ⟨lbX10_senses, (ev_t5 178 rfl rfl), imX10_senses, seX10_senses⟩
theorem ml_WithoutE_449 : ev_LS "WithoutE" 449 mX10_isAlike 3 := ⟨lbX10_isAlike, (ev_t5 195 rfl rfl), stX10_isAlike⟩
theorem ml_WithoutE_453 : ev_LV "WithoutE" 453 mX10_fitsReport 1 := ⟨lbX10_fitsReport, (ev_t5 202 rfl rfl), imX10_fitsReport, seX10_fitsReport⟩
theorem ml_WithoutE_456 : ev_LV "WithoutE" 456 mX10_meant 1 := ⟨lbX10_meant, (ev_t5 206 rfl rfl), imX10_meant, seX10_meant⟩
theorem ml_WithoutE_462 : ev_LV "WithoutE" 462 mX9_linesShown 0 := ⟨lbX9_linesShown, (ev_t5 219 rfl rfl), imX9_linesShown, seX9_linesShown⟩
theorem ml_WithoutE_Typewriter_49 : ev_LS "WithoutE$Typewriter" 49 mJ9_min_7cf53 2 := ⟨lbJ9_min_7cf53, (ev_t5 223 rfl rfl), stJ9_min_7cf53⟩
theorem ml_WithoutE_465 : ev_LV "WithoutE" 465 mX9_linePart 2 := ⟨lbX9_linePart, (ev_t5 224 rfl rfl), imX9_linePart, seX9_linePart⟩
theorem ml_WithoutE_Typewriter_55 : ev_LV "WithoutE$Typewriter" 55 mX9_linesShown 0 := ⟨lbX9_linesShown, (ev_t5 228 rfl rfl), imX9_linesShown, seX9_linesShown⟩
theorem ml_WithoutE_468 : ev_LV "WithoutE" 468 mX9_copyOf 1 := ⟨lbX9_copyOf, (ev_t5 233 rfl rfl), imX9_copyOf, seX9_copyOf⟩
theorem ml_WithoutE_472 : ev_LV "WithoutE" 472 mX3_copyOf 1 := ⟨lbX3_copyOf, (ev_t5 237 rfl rfl), imX3_copyOf, seX3_copyOf⟩
theorem ml_WithoutEModel_76 : ev_LS "WithoutEModel" 76 mX11_copy 2 := ⟨lbX11_copy, (ev_t6 20 rfl rfl), stX11_copy⟩
theorem ml_WithoutEModel_106 : ev_LV "WithoutEModel" 106 mX11_four 1 := ⟨lbX11_four, (ev_t6 134 rfl rfl), imX11_four, seX11_four⟩
theorem ml_WithoutEModel_80 : ev_LS "WithoutEModel" 80 mX11_isIn 3 := ⟨lbX11_isIn, (ev_t6 142 rfl rfl), stX11_isIn⟩
theorem ml_WithoutEModel_277 : ev_LV "WithoutEModel" 277 mX11_readText 0 := ⟨lbX11_readText, (ev_t6 149 rfl rfl), imX11_readText, seX11_readText⟩
theorem ml_WithoutEModel_194 : ev_LV "WithoutEModel" 194 mX11_nextToken 0 := ⟨lbX11_nextToken, (ev_t6 153 rfl rfl), imX11_nextToken, seX11_nextToken⟩
theorem ml_WithoutEModel_113 : ev_LV "WithoutEModel" 113 mX11_byteAt 1 := ⟨lbX11_byteAt, (ev_t6 157 rfl rfl), imX11_byteAt, seX11_byteAt⟩
theorem ml_WithoutEModel_122 : ev_LS "WithoutEModel" 122 mX11_isFigure 1 := ⟨lbX11_isFigure, (ev_t6 161 rfl rfl), stX11_isFigure⟩
theorem ml_WithoutEModel_129 : ev_LS "WithoutEModel" 129 mX11_isLetterByte 1 := ⟨lbX11_isLetterByte, (ev_t6 165 rfl rfl), stX11_isLetterByte⟩
theorem ml_WithoutEModel_138 : ev_LS "WithoutEModel" 138 mX11_isSign 1 := ⟨lbX11_isSign, (ev_t6 169 rfl rfl), stX11_isSign⟩
theorem ml_WithoutEModel_274 : ev_LV "WithoutEModel" 274 mX11_clause 0 := ⟨lbX11_clause, (ev_t6 172 rfl rfl), imX11_clause, seX11_clause⟩
theorem ml_WithoutEModel_265 : ev_LV "WithoutEModel" 265 mX11_sortOf 0 := ⟨lbX11_sortOf, (ev_t6 176 rfl rfl), imX11_sortOf, seX11_sortOf⟩
theorem ml_WithoutEModel_153 : ev_LS "WithoutEModel" 153 mX11_w5 5 := ⟨lbX11_w5, (ev_t6 180 rfl rfl), stX11_w5⟩
theorem ml_WithoutEModel_149 : ev_LS "WithoutEModel" 149 mX11_w4 4 := ⟨lbX11_w4, (ev_t6 183 rfl rfl), stX11_w4⟩
theorem ml_WithoutEModel_145 : ev_LS "WithoutEModel" 145 mX11_w3 3 := ⟨lbX11_w3, (ev_t6 186 rfl rfl), stX11_w3⟩
theorem ml_WithoutEModel_141 : ev_LS "WithoutEModel" 141 mX11_w2 2 := ⟨lbX11_w2, (ev_t6 189 rfl rfl), stX11_w2⟩
theorem ml_WithoutEModel_213 : ev_LV "WithoutEModel" 213 mX11_isWord 1 := ⟨lbX11_isWord, (ev_t6 192 rfl rfl), imX11_isWord, seX11_isWord⟩
theorem ml_WithoutEModel_167 : ev_LV "WithoutEModel" 167 mX11_isLong 2 := ⟨lbX11_isLong, (ev_t6 196 rfl rfl), imX11_isLong, seX11_isLong⟩
theorem ml_WithoutEModel_84 : ev_LS "WithoutEModel" 84 mX11_has 2 := ⟨lbX11_has, (ev_t6 200 rfl rfl), stX11_has⟩
theorem ml_WithoutEModel_271 : ev_LV "WithoutEModel" 271 mX11_body 2 := ⟨lbX11_body, (ev_t6 203 rfl rfl), imX11_body, seX11_body⟩
theorem ml_WithoutEModel_253 : ev_LV "WithoutEModel" 253 mX11_wordClause 1 := ⟨lbX11_wordClause, (ev_t6 207 rfl rfl), imX11_wordClause, seX11_wordClause⟩
theorem ml_WithoutEModel_246 : ev_LV "WithoutEModel" 246 mX11_spelled 2 := ⟨lbX11_spelled, (ev_t6 211 rfl rfl), imX11_spelled, seX11_spelled⟩
theorem ml_WithoutEModel_249 : ev_LV "WithoutEModel" 249 mX11_worded 4 := ⟨lbX11_worded, (ev_t6 215 rfl rfl), imX11_worded, seX11_worded⟩
theorem ml_WithoutEModel_239 : ev_LV "WithoutEModel" 239 mX11_figure 3 := ⟨lbX11_figure, (ev_t6 219 rfl rfl), imX11_figure, seX11_figure⟩
theorem ml_WithoutEModel_256 : ev_LV "WithoutEModel" 256 mX11_sayClause 1 := ⟨lbX11_sayClause, (ev_t6 223 rfl rfl), imX11_sayClause, seX11_sayClause⟩
theorem ml_WithoutEModel_259 : ev_LV "WithoutEModel" 259 mX11_makeClause 1 := ⟨lbX11_makeClause, (ev_t6 227 rfl rfl), imX11_makeClause, seX11_makeClause⟩
theorem ml_WithoutEModel_262 : ev_LV "WithoutEModel" 262 mX11_lawClause 1 := ⟨lbX11_lawClause, (ev_t6 231 rfl rfl), imX11_lawClause, seX11_lawClause⟩
theorem ml_WithoutEModel_243 : ev_LV "WithoutEModel" 243 mX11_summed 0 := ⟨lbX11_summed, (ev_t6 235 rfl rfl), imX11_summed, seX11_summed⟩
theorem ml_WithoutEModel_233 : ev_LV "WithoutEModel" 233 mX11_behindOne 0 := ⟨lbX11_behindOne, (ev_t6 239 rfl rfl), imX11_behindOne, seX11_behindOne⟩
theorem ml_WithoutEModel_227 : ev_LV "WithoutEModel" 227 mX11_betweenOf 0 := ⟨lbX11_betweenOf, (ev_t7 3 rfl rfl), imX11_betweenOf, seX11_betweenOf⟩
theorem ml_WithoutEModel_191 : ev_LV "WithoutEModel" 191 mX11_openNow 0 := ⟨lbX11_openNow, (ev_t7 7 rfl rfl), imX11_openNow, seX11_openNow⟩
theorem ml_WithoutEModel_187 : ev_LV "WithoutEModel" 187 mX11_openAt 0 := ⟨lbX11_openAt, (ev_t7 11 rfl rfl), imX11_openAt, seX11_openAt⟩
theorem ml_WithoutEModel_221 : ev_LV "WithoutEModel" 221 mX11_isCompared 0 := ⟨lbX11_isCompared, (ev_t7 15 rfl rfl), imX11_isCompared, seX11_isCompared⟩
theorem ml_WithoutEModel_177 : ev_LS "WithoutEModel" 177 mX11_rank 1 := ⟨lbX11_rank, (ev_t7 19 rfl rfl), stX11_rank⟩
theorem ml_WithoutEModel_224 : ev_LV "WithoutEModel" 224 mX11_compareOf 0 := ⟨lbX11_compareOf, (ev_t7 22 rfl rfl), imX11_compareOf, seX11_compareOf⟩
theorem ml_WithoutEModel_207 : ev_LV "WithoutEModel" 207 mX11_settle 1 := ⟨lbX11_settle, (ev_t7 26 rfl rfl), imX11_settle, seX11_settle⟩
theorem ml_WithoutEModel_180 : ev_LV "WithoutEModel" 180 mX11_emit 2 := ⟨lbX11_emit, (ev_t7 30 rfl rfl), imX11_emit, seX11_emit⟩
theorem ml_WithoutEModel_230 : ev_LV "WithoutEModel" 230 mX11_partOf 1 := ⟨lbX11_partOf, (ev_t7 34 rfl rfl), imX11_partOf, seX11_partOf⟩
theorem ml_WithoutEModel_236 : ev_LV "WithoutEModel" 236 mX11_beginOne 0 := ⟨lbX11_beginOne, (ev_t7 38 rfl rfl), imX11_beginOne, seX11_beginOne⟩
theorem ml_WithoutEModel_197 : ev_LV "WithoutEModel" 197 mX11_nameOf 0 := ⟨lbX11_nameOf, (ev_t7 42 rfl rfl), imX11_nameOf, seX11_nameOf⟩
theorem ml_WithoutEModel_163 : ev_LS "WithoutEModel" 163 mX11_w6 6 := ⟨lbX11_w6, (ev_t7 46 rfl rfl), stX11_w6⟩
theorem ml_WithoutEModel_200 : ev_LV "WithoutEModel" 200 mX11_isOf 1 := ⟨lbX11_isOf, (ev_t7 49 rfl rfl), imX11_isOf, seX11_isOf⟩
theorem ml_WithoutEModel_210 : ev_LV "WithoutEModel" 210 mX11_opened 1 := ⟨lbX11_opened, (ev_t7 53 rfl rfl), imX11_opened, seX11_opened⟩
theorem ml_WithoutEModel_217 : ev_LV "WithoutEModel" 217 mX11_isAskAhead 0 := ⟨lbX11_isAskAhead, (ev_t7 57 rfl rfl), imX11_isAskAhead, seX11_isAskAhead⟩
theorem ml_WithoutEModel_325 : ev_LS "WithoutEModel" 325 mX11_isWordTold 3 := ⟨lbX11_isWordTold, (ev_t7 73 rfl rfl), stX11_isWordTold⟩
theorem ml_WithoutEModel_328 : ev_LV "WithoutEModel" 328 mX11_isSpelled 0 := ⟨lbX11_isSpelled, (ev_t7 76 rfl rfl), imX11_isSpelled, seX11_isSpelled⟩
theorem ml_WithoutEModel_331 : ev_LV "WithoutEModel" 331 mX11_refused 1 := ⟨lbX11_refused, (ev_t7 80 rfl rfl), imX11_refused, seX11_refused⟩
theorem ml_WithoutEModel_334 : ev_LV "WithoutEModel" 334 mX11_lay 3 := ⟨lbX11_lay, (ev_t7 84 rfl rfl), imX11_lay, seX11_lay⟩
theorem ml_WithoutEModel_337 : ev_LV "WithoutEModel" 337 mX11_isWordOf 1 := ⟨lbX11_isWordOf, (ev_t7 92 rfl rfl), imX11_isWordOf, seX11_isWordOf⟩
theorem ml_WithoutEModel_92 : ev_LV "WithoutEModel" 92 mX11_get 2 := ⟨lbX11_get, (ev_t7 96 rfl rfl), imX11_get, seX11_get⟩
theorem ml_WithoutEModel_340 : ev_LV "WithoutEModel" 340 mX11_sentenceOf 1 := ⟨lbX11_sentenceOf, (ev_t7 104 rfl rfl), imX11_sentenceOf, seX11_sentenceOf⟩
theorem ml_WithoutEModel_343 : ev_LS "WithoutEModel" 343 mX11_isLetter 1 := ⟨lbX11_isLetter, (ev_t7 112 rfl rfl), stX11_isLetter⟩
theorem ml_WithoutEModel_88 : ev_LV "WithoutEModel" 88 mX11_isLost 1 := ⟨lbX11_isLost, (ev_t7 123 rfl rfl), imX11_isLost, seX11_isLost⟩
theorem ml_WithoutEModel_408 : ev_LV "WithoutEModel" 408 mX11_keep 0 := ⟨lbX11_keep, (ev_t7 127 rfl rfl), imX11_keep, seX11_keep⟩
theorem ml_WithoutEModel_411 : ev_LV "WithoutEModel" 411 mX11_isSentence 1 := ⟨lbX11_isSentence, (ev_t7 135 rfl rfl), imX11_isSentence, seX11_isSentence⟩
theorem ml_WithoutEModel_393 : ev_LV "WithoutEModel" 393 mX11_saidOf 1 := ⟨lbX11_saidOf, (ev_t7 139 rfl rfl), imX11_saidOf, seX11_saidOf⟩
theorem ml_WithoutEModel_368 : ev_LV "WithoutEModel" 368 mX11_layStiffs 0 := ⟨lbX11_layStiffs, (ev_t7 143 rfl rfl), imX11_layStiffs, seX11_layStiffs⟩
theorem ml_WithoutEModel_346 : ev_LV "WithoutEModel" 346 mX11_canBe 1 := ⟨lbX11_canBe, (ev_t7 147 rfl rfl), imX11_canBe, seX11_canBe⟩
theorem ml_WithoutEModel_96 : ev_LV "WithoutEModel" 96 mX11_holesOf 1 := ⟨lbX11_holesOf, (ev_t7 151 rfl rfl), imX11_holesOf, seX11_holesOf⟩
theorem ml_WithoutEModel_100 : ev_LV "WithoutEModel" 100 mX11_isMadeOfLeft 1 := ⟨lbX11_isMadeOfLeft, (ev_t7 155 rfl rfl), imX11_isMadeOfLeft, seX11_isMadeOfLeft⟩
theorem ml_WithoutEModel_349 : ev_LV "WithoutEModel" 349 mX11_stiffOf 2 := ⟨lbX11_stiffOf, (ev_t7 159 rfl rfl), imX11_stiffOf, seX11_stiffOf⟩
theorem ml_WithoutEModel_315 : ev_LV "WithoutEModel" 315 mX11_name 0 := ⟨lbX11_name, (ev_t7 163 rfl rfl), imX11_name, seX11_name⟩
theorem ml_WithoutEModel_312 : ev_LS "WithoutEModel" 312 mX11_bits 1 := ⟨lbX11_bits, (ev_t7 167 rfl rfl), stX11_bits⟩
theorem ml_WithoutEModel_318 : ev_LV "WithoutEModel" 318 mX11_extraOf 1 := ⟨lbX11_extraOf, (ev_t7 170 rfl rfl), imX11_extraOf, seX11_extraOf⟩
theorem ml_WithoutEModel_321 : ev_LV "WithoutEModel" 321 mX11_says 4 := ⟨lbX11_says, (ev_t7 174 rfl rfl), imX11_says, seX11_says⟩
theorem ml_WithoutEModel_305 : ev_LV "WithoutEModel" 305 mX11_summedUp 2 := ⟨lbX11_summedUp, (ev_t7 178 rfl rfl), imX11_summedUp, seX11_summedUp⟩
theorem ml_WithoutEModel_290 : ev_LV "WithoutEModel" 290 mX11_usesOf 1 := ⟨lbX11_usesOf, (ev_t7 182 rfl rfl), imX11_usesOf, seX11_usesOf⟩
theorem ml_WithoutEModel_293 : ev_LS "WithoutEModel" 293 mX11_two 3 := ⟨lbX11_two, (ev_t7 187 rfl rfl), stX11_two⟩
theorem ml_WithoutEModel_284 : ev_LS "WithoutEModel" 284 mX11_clip 1 := ⟨lbX11_clip, (ev_t7 190 rfl rfl), stX11_clip⟩
theorem ml_WithoutEModel_297 : ev_LS "WithoutEModel" 297 mX11_isAsked 3 := ⟨lbX11_isAsked, (ev_t7 195 rfl rfl), stX11_isAsked⟩
theorem ml_WithoutEModel_301 : ev_LS "WithoutEModel" 301 mX11_joined 3 := ⟨lbX11_joined, (ev_t7 198 rfl rfl), stX11_joined⟩
theorem ml_WithoutEModel_308 : ev_LS "WithoutEModel" 308 mX11_bound 3 := ⟨lbX11_bound, (ev_t7 201 rfl rfl), stX11_bound⟩
theorem ml_WithoutEModel_371 : ev_LV "WithoutEModel" 371 mX11_leastOf 1 := ⟨lbX11_leastOf, (ev_t7 205 rfl rfl), imX11_leastOf, seX11_leastOf⟩
theorem ml_WithoutEModel_365 : ev_LV "WithoutEModel" 365 mX11_layRests 1 := ⟨lbX11_layRests, (ev_t7 209 rfl rfl), imX11_layRests, seX11_layRests⟩
theorem ml_WithoutEModel_359 : ev_LV "WithoutEModel" 359 mX11_lengthOf 1 := ⟨lbX11_lengthOf, (ev_t7 213 rfl rfl), imX11_lengthOf, seX11_lengthOf⟩
theorem ml_WithoutEModel_353 : ev_LV "WithoutEModel" 353 mX11_isAt 3 := ⟨lbX11_isAt, (ev_t7 217 rfl rfl), imX11_isAt, seX11_isAt⟩
theorem ml_WithoutEModel_362 : ev_LV "WithoutEModel" 362 mX11_nextOf 3 := ⟨lbX11_nextOf, (ev_t7 221 rfl rfl), imX11_nextOf, seX11_nextOf⟩
theorem ml_WithoutEModel_356 : ev_LV "WithoutEModel" 356 mX11_behind 2 := ⟨lbX11_behind, (ev_t7 225 rfl rfl), imX11_behind, seX11_behind⟩
theorem ml_WithoutEModel_396 : ev_LV "WithoutEModel" 396 mX11_writeNow 2 := ⟨lbX11_writeNow, (ev_t7 229 rfl rfl), imX11_writeNow, seX11_writeNow⟩
theorem ml_WithoutEModel_377 : ev_LV "WithoutEModel" 377 mX11_keyFor 2 := ⟨lbX11_keyFor, (ev_t7 233 rfl rfl), imX11_keyFor, seX11_keyFor⟩
theorem ml_WithoutEModel_380 : ev_LV "WithoutEModel" 380 mX11_secondsIn 1 := ⟨lbX11_secondsIn, (ev_t7 237 rfl rfl), imX11_secondsIn, seX11_secondsIn⟩
theorem ml_WithoutEModel_374 : ev_LV "WithoutEModel" 374 mX11_secondsOf 1 := ⟨lbX11_secondsOf, (ev_t8 1 rfl rfl), imX11_secondsOf, seX11_secondsOf⟩
theorem ml_WithoutEModel_383 : ev_LV "WithoutEModel" 383 mX11_note 3 := ⟨lbX11_note, (ev_t8 5 rfl rfl), imX11_note, seX11_note⟩
theorem ml_WithoutEModel_417 : ev_LV "WithoutEModel" 417 mX11_arePassed 1 := ⟨lbX11_arePassed, (ev_t8 13 rfl rfl), imX11_arePassed, seX11_arePassed⟩
theorem ml_WithoutEModel_414 : ev_LV "WithoutEModel" 414 mX11_pass 0 := ⟨lbX11_pass, (ev_t8 17 rfl rfl), imX11_pass, seX11_pass⟩
theorem ml_WithoutEModel_399 : ev_LV "WithoutEModel" 399 mX11_anew 0 := ⟨lbX11_anew, (ev_t8 21 rfl rfl), imX11_anew, seX11_anew⟩
theorem ml_WithoutEModel_402 : ev_LV "WithoutEModel" 402 mX11_wearsOf 1 := ⟨lbX11_wearsOf, (ev_t8 28 rfl rfl), imX11_wearsOf, seX11_wearsOf⟩
theorem ml_WithoutEModel_405 : ev_LV "WithoutEModel" 405 mX11_goes 1 := ⟨lbX11_goes, (ev_t8 32 rfl rfl), imX11_goes, seX11_goes⟩
theorem ml_WithoutEModel_441 : ev_LV "WithoutEModel" 441 mX11_isPlayed 1 := ⟨lbX11_isPlayed, (ev_t8 40 rfl rfl), imX11_isPlayed, seX11_isPlayed⟩
theorem ml_WithoutEModel_420 : ev_LV "WithoutEModel" 420 mX11_wordOf 1 := ⟨lbX11_wordOf, (ev_t8 44 rfl rfl), imX11_wordOf, seX11_wordOf⟩
theorem ml_WithoutEModel_423 : ev_LV "WithoutEModel" 423 mX11_isSaid 1 := ⟨lbX11_isSaid, (ev_t8 48 rfl rfl), imX11_isSaid, seX11_isSaid⟩
theorem ml_WithoutEModel_426 : ev_LV "WithoutEModel" 426 mX11_made 3 := ⟨lbX11_made, (ev_t8 52 rfl rfl), imX11_made, seX11_made⟩
theorem ml_WithoutEModel_429 : ev_LV "WithoutEModel" 429 mX11_key 1 := ⟨lbX11_key, (ev_t8 53 rfl rfl), imX11_key, seX11_key⟩
theorem ml_WithoutEModel_432 : ev_LV "WithoutEModel" 432 mX11_turn 1 := ⟨lbX11_turn, (ev_t8 54 rfl rfl), imX11_turn, seX11_turn⟩
theorem ml_WithoutEModel_435 : ev_LV "WithoutEModel" 435 mX11_write 1 := ⟨lbX11_write, (ev_t8 55 rfl rfl), imX11_write, seX11_write⟩
theorem ml_WithoutEModel_438 : ev_LV "WithoutEModel" 438 mX11_weekOf 1 := ⟨lbX11_weekOf, (ev_t8 56 rfl rfl), imX11_weekOf, seX11_weekOf⟩
theorem ml_WithoutEModel_445 : ev_LV "WithoutEModel" 445 mX11_lettersIn 1 := ⟨lbX11_lettersIn, (ev_t8 89 rfl rfl), imX11_lettersIn, seX11_lettersIn⟩
theorem ml_WithoutEModel_448 : ev_LV "WithoutEModel" 448 mX11_layUpTo 2 := ⟨lbX11_layUpTo, (ev_t8 101 rfl rfl), imX11_layUpTo, seX11_layUpTo⟩
theorem ml_WithoutEModel_451 : ev_LV "WithoutEModel" 451 mX11_totalWith 1 := ⟨lbX11_totalWith, (ev_t8 113 rfl rfl), imX11_totalWith, seX11_totalWith⟩
theorem ml_WithoutEModel_454 : ev_LV "WithoutEModel" 454 mX11_layNows 0 := ⟨lbX11_layNows, (ev_t8 125 rfl rfl), imX11_layNows, seX11_layNows⟩
theorem ml_WithoutEModel_465 : ev_LV "WithoutEModel" 465 mX11_layLines 0 := ⟨lbX11_layLines, (ev_t8 145 rfl rfl), imX11_layLines, seX11_layLines⟩
theorem ml_WithoutEModel_460 : ev_LV "WithoutEModel" 460 mX11_noticesOf 3 := ⟨lbX11_noticesOf, (ev_t8 149 rfl rfl), imX11_noticesOf, seX11_noticesOf⟩
theorem ml_WithoutEModel_470 : ev_LS "WithoutEModel" 470 mX11_tens 1 := ⟨lbX11_tens, (ev_t8 154 rfl rfl), stX11_tens⟩
theorem ml_WithoutEModel_474 : ev_LV "WithoutEModel" 474 mX11_unseen 1 := ⟨lbX11_unseen, (ev_t8 158 rfl rfl), imX11_unseen, seX11_unseen⟩
theorem ml_WithoutEModel_477 : ev_LS "WithoutEModel" 477 mX11_common 2 := ⟨lbX11_common, (ev_t8 162 rfl rfl), stX11_common⟩
theorem ml_WithoutEModel_487 : ev_LV "WithoutEModel" 487 mX11_mayBeLost 0 := ⟨lbX11_mayBeLost, (ev_t8 182 rfl rfl), imX11_mayBeLost, seX11_mayBeLost⟩
theorem ml_WithoutEModel_484 : ev_LV "WithoutEModel" 484 mX11_lettersOf 1 := ⟨lbX11_lettersOf, (ev_t8 187 rfl rfl), imX11_lettersOf, seX11_lettersOf⟩
theorem ml_WithoutEModel_490 : ev_LV "WithoutEModel" 490 mX11_penceOf 1 := ⟨lbX11_penceOf, (ev_t8 207 rfl rfl), imX11_penceOf, seX11_penceOf⟩
theorem ml_WithoutEModel_493 : ev_LV "WithoutEModel" 493 mX11_least 2 := ⟨lbX11_least, (ev_t8 215 rfl rfl), imX11_least, seX11_least⟩
theorem ml_WithoutEModel_496 : ev_LS "WithoutEModel" 496 mX11_sumOf 2 := ⟨lbX11_sumOf, (ev_t8 220 rfl rfl), stX11_sumOf⟩
theorem ml_WithoutEModel_500 : ev_LV "WithoutEModel" 500 mX11_senses 0 := ⟨lbX11_senses, (ev_t8 231 rfl rfl), imX11_senses, seX11_senses⟩
theorem ml_WithoutEModel_503 : ev_LV "WithoutEModel" 503 mX11_isMeant 2 := ⟨lbX11_isMeant, (ev_t9 4 rfl rfl), imX11_isMeant, seX11_isMeant⟩
theorem ml_WithoutEModel_506 : ev_LV "WithoutEModel" 506 mX11_isFitting 1 := ⟨lbX11_isFitting, (ev_t9 12 rfl rfl), imX11_isFitting, seX11_isFitting⟩
theorem ml_WithoutE_Reader_157 : ev_LN "WithoutE$Reader" 157 mX10_isSmall 1 "WithoutE" := ⟨lbX10_isSmall, by decide +kernel, stX10_isSmall⟩
theorem ml_WithoutE_Sound_29 : ev_LN "WithoutE$Sound" 29 mX10_has 2 "WithoutE" := ⟨lbX10_has, by decide +kernel, stX10_has⟩
theorem ml_WithoutE_Sound_57 : ev_LN "WithoutE$Sound" 57 mX10_isLetter 1 "WithoutE" := ⟨lbX10_isLetter, by decide +kernel, stX10_isLetter⟩
theorem ml_WithoutE_Tape_19 : ev_LN "WithoutE$Tape" 19 mX10_isSmall 1 "WithoutE" := ⟨lbX10_isSmall, by decide +kernel, stX10_isSmall⟩
theorem fl_WithoutE_Tape_9 : ev_FL "WithoutE$Tape" 9 7 0 := ⟨RX7, TX7, 2, rfl, by decide, lw_7, (ev_t1 35 rfl rfl)⟩
theorem fl_WithoutE_Reader_56 : ev_FL "WithoutE$Reader" 56 7 0 := ⟨RX7, TX7, 2, rfl, by decide, lw_7, (ev_t1 36 rfl rfl)⟩
theorem fl_WithoutE_188 : ev_FL "WithoutE" 188 7 0 := ⟨RX7, TX7, 2, rfl, by decide, lw_7, (ev_t1 37 rfl rfl)⟩
theorem fl_WithoutE_102 : ev_FL "WithoutE" 102 7 1 := ⟨RX7, TX7, 2, rfl, by decide, lw_7, (ev_t1 38 rfl rfl)⟩
theorem fp_WithoutE_102 : ev_FP "WithoutE" 102 7 1 .int := ⟨RX7, TX7, 2, tyX7, rfl, by decide, lw_7, fl_WithoutE_102.elim (fun _ h => h.elim fun _ h => h.elim fun _ h => by obtain ⟨h1, -, -, h2⟩ := h; cases h1; exact h2), tyX7_ok, nmX7, rfl, by decide +kernel⟩
theorem fl_WithoutE_Tape_15 : ev_FL "WithoutE$Tape" 15 7 1 := ⟨RX7, TX7, 2, rfl, by decide, lw_7, (ev_t1 39 rfl rfl)⟩
theorem fp_WithoutE_Tape_15 : ev_FP "WithoutE$Tape" 15 7 1 .int := ⟨RX7, TX7, 2, tyX7, rfl, by decide, lw_7, fl_WithoutE_Tape_15.elim (fun _ h => h.elim fun _ h => h.elim fun _ h => by obtain ⟨h1, -, -, h2⟩ := h; cases h1; exact h2), tyX7_ok, nmX7, rfl, by decide +kernel⟩
theorem fl_WithoutE_Reader_51 : ev_FL "WithoutE$Reader" 51 7 1 := ⟨RX7, TX7, 2, rfl, by decide, lw_7, (ev_t1 40 rfl rfl)⟩
theorem fp_WithoutE_Reader_51 : ev_FP "WithoutE$Reader" 51 7 1 .int := ⟨RX7, TX7, 2, tyX7, rfl, by decide, lw_7, fl_WithoutE_Reader_51.elim (fun _ h => h.elim fun _ h => h.elim fun _ h => by obtain ⟨h1, -, -, h2⟩ := h; cases h1; exact h2), tyX7_ok, nmX7, rfl, by decide +kernel⟩
theorem fl_WithoutE_Dictionary_11 : ev_FL "WithoutE$Dictionary" 11 0 0 := ⟨RX0, TX0, 9, rfl, by decide, lw_0, (ev_t1 55 rfl rfl)⟩
theorem fl_WithoutE_Sound_25 : ev_FL "WithoutE$Sound" 25 0 0 := ⟨RX0, TX0, 9, rfl, by decide, lw_0, (ev_t1 56 rfl rfl)⟩
theorem fl_WithoutE_201 : ev_FL "WithoutE" 201 0 0 := ⟨RX0, TX0, 9, rfl, by decide, lw_0, (ev_t1 57 rfl rfl)⟩
theorem fl_WithoutE_Dictionary_16 : ev_FL "WithoutE$Dictionary" 16 0 1 := ⟨RX0, TX0, 9, rfl, by decide, lw_0, (ev_t1 58 rfl rfl)⟩
theorem fl_WithoutE_Sound_19 : ev_FL "WithoutE$Sound" 19 0 1 := ⟨RX0, TX0, 9, rfl, by decide, lw_0, (ev_t1 59 rfl rfl)⟩
theorem fl_WithoutE_Laws_39 : ev_FL "WithoutE$Laws" 39 0 1 := ⟨RX0, TX0, 9, rfl, by decide, lw_0, (ev_t1 60 rfl rfl)⟩
theorem fl_WithoutE_Speech_162 : ev_FL "WithoutE$Speech" 162 0 1 := ⟨RX0, TX0, 9, rfl, by decide, lw_0, (ev_t1 61 rfl rfl)⟩
theorem fl_WithoutE_197 : ev_FL "WithoutE" 197 0 1 := ⟨RX0, TX0, 9, rfl, by decide, lw_0, (ev_t1 62 rfl rfl)⟩
theorem fl_WithoutE_Dictionary_20 : ev_FL "WithoutE$Dictionary" 20 0 2 := ⟨RX0, TX0, 9, rfl, by decide, lw_0, (ev_t1 63 rfl rfl)⟩
theorem fl_WithoutE_Laws_36 : ev_FL "WithoutE$Laws" 36 0 2 := ⟨RX0, TX0, 9, rfl, by decide, lw_0, (ev_t1 64 rfl rfl)⟩
theorem fl_WithoutE_Sound_33 : ev_FL "WithoutE$Sound" 33 0 2 := ⟨RX0, TX0, 9, rfl, by decide, lw_0, (ev_t1 65 rfl rfl)⟩
theorem fl_WithoutE_Speech_126 : ev_FL "WithoutE$Speech" 126 0 2 := ⟨RX0, TX0, 9, rfl, by decide, lw_0, (ev_t1 66 rfl rfl)⟩
theorem fl_WithoutE_200 : ev_FL "WithoutE" 200 0 2 := ⟨RX0, TX0, 9, rfl, by decide, lw_0, (ev_t1 67 rfl rfl)⟩
theorem fl_WithoutE_Dictionary_23 : ev_FL "WithoutE$Dictionary" 23 0 3 := ⟨RX0, TX0, 9, rfl, by decide, lw_0, (ev_t1 68 rfl rfl)⟩
theorem fl_WithoutE_Speech_117 : ev_FL "WithoutE$Speech" 117 0 3 := ⟨RX0, TX0, 9, rfl, by decide, lw_0, (ev_t1 69 rfl rfl)⟩
theorem fl_WithoutE_205 : ev_FL "WithoutE" 205 0 3 := ⟨RX0, TX0, 9, rfl, by decide, lw_0, (ev_t1 70 rfl rfl)⟩
theorem fl_WithoutE_Dictionary_26 : ev_FL "WithoutE$Dictionary" 26 0 4 := ⟨RX0, TX0, 9, rfl, by decide, lw_0, (ev_t1 71 rfl rfl)⟩
theorem fl_WithoutE_Laws_31 : ev_FL "WithoutE$Laws" 31 0 4 := ⟨RX0, TX0, 9, rfl, by decide, lw_0, (ev_t1 72 rfl rfl)⟩
theorem fl_WithoutE_208 : ev_FL "WithoutE" 208 0 4 := ⟨RX0, TX0, 9, rfl, by decide, lw_0, (ev_t1 73 rfl rfl)⟩
theorem fl_WithoutE_Dictionary_35 : ev_FL "WithoutE$Dictionary" 35 0 5 := ⟨RX0, TX0, 9, rfl, by decide, lw_0, (ev_t1 74 rfl rfl)⟩
theorem fp_WithoutE_Dictionary_35 : ev_FP "WithoutE$Dictionary" 35 0 5 .int := ⟨RX0, TX0, 9, tyX0, rfl, by decide, lw_0, fl_WithoutE_Dictionary_35.elim (fun _ h => h.elim fun _ h => h.elim fun _ h => by obtain ⟨h1, -, -, h2⟩ := h; cases h1; exact h2), tyX0_ok, nmX0, rfl, by decide +kernel⟩
theorem fl_WithoutE_Speech_74 : ev_FL "WithoutE$Speech" 74 0 5 := ⟨RX0, TX0, 9, rfl, by decide, lw_0, (ev_t1 75 rfl rfl)⟩
theorem fp_WithoutE_Speech_74 : ev_FP "WithoutE$Speech" 74 0 5 .int := ⟨RX0, TX0, 9, tyX0, rfl, by decide, lw_0, fl_WithoutE_Speech_74.elim (fun _ h => h.elim fun _ h => h.elim fun _ h => by obtain ⟨h1, -, -, h2⟩ := h; cases h1; exact h2), tyX0_ok, nmX0, rfl, by decide +kernel⟩
theorem fl_WithoutE_194 : ev_FL "WithoutE" 194 0 5 := ⟨RX0, TX0, 9, rfl, by decide, lw_0, (ev_t1 76 rfl rfl)⟩
theorem fp_WithoutE_194 : ev_FP "WithoutE" 194 0 5 .int := ⟨RX0, TX0, 9, tyX0, rfl, by decide, lw_0, fl_WithoutE_194.elim (fun _ h => h.elim fun _ h => h.elim fun _ h => by obtain ⟨h1, -, -, h2⟩ := h; cases h1; exact h2), tyX0_ok, nmX0, rfl, by decide +kernel⟩
theorem fl_WithoutE_Dictionary_29 : ev_FL "WithoutE$Dictionary" 29 0 6 := ⟨RX0, TX0, 9, rfl, by decide, lw_0, (ev_t1 77 rfl rfl)⟩
theorem fl_WithoutE_Speech_110 : ev_FL "WithoutE$Speech" 110 0 6 := ⟨RX0, TX0, 9, rfl, by decide, lw_0, (ev_t1 78 rfl rfl)⟩
theorem fl_WithoutE_459 : ev_FL "WithoutE" 459 0 6 := ⟨RX0, TX0, 9, rfl, by decide, lw_0, (ev_t1 79 rfl rfl)⟩
theorem fl_WithoutE_Dictionary_32 : ev_FL "WithoutE$Dictionary" 32 0 7 := ⟨RX0, TX0, 9, rfl, by decide, lw_0, (ev_t1 80 rfl rfl)⟩
theorem fl_WithoutE_Speech_97 : ev_FL "WithoutE$Speech" 97 0 7 := ⟨RX0, TX0, 9, rfl, by decide, lw_0, (ev_t1 81 rfl rfl)⟩
theorem fl_WithoutE_328 : ev_FL "WithoutE" 328 0 7 := ⟨RX0, TX0, 9, rfl, by decide, lw_0, (ev_t1 82 rfl rfl)⟩
theorem fl_WithoutE_Dictionary_39 : ev_FL "WithoutE$Dictionary" 39 0 8 := ⟨RX0, TX0, 9, rfl, by decide, lw_0, (ev_t1 83 rfl rfl)⟩
theorem fp_WithoutE_Dictionary_39 : ev_FP "WithoutE$Dictionary" 39 0 8 .int := ⟨RX0, TX0, 9, tyX0, rfl, by decide, lw_0, fl_WithoutE_Dictionary_39.elim (fun _ h => h.elim fun _ h => h.elim fun _ h => by obtain ⟨h1, -, -, h2⟩ := h; cases h1; exact h2), tyX0_ok, nmX0, rfl, by decide +kernel⟩
theorem fl_WithoutE_262 : ev_FL "WithoutE" 262 0 8 := ⟨RX0, TX0, 9, rfl, by decide, lw_0, (ev_t1 84 rfl rfl)⟩
theorem fp_WithoutE_262 : ev_FP "WithoutE" 262 0 8 .int := ⟨RX0, TX0, 9, tyX0, rfl, by decide, lw_0, fl_WithoutE_262.elim (fun _ h => h.elim fun _ h => h.elim fun _ h => by obtain ⟨h1, -, -, h2⟩ := h; cases h1; exact h2), tyX0_ok, nmX0, rfl, by decide +kernel⟩
theorem fl_WithoutE_Typewriter_25 : ev_FL "WithoutE$Typewriter" 25 9 0 := ⟨RX9, TX9, 10, rfl, by decide, lw_9, (ev_t1 110 rfl rfl)⟩
theorem fp_WithoutE_Typewriter_25 : ev_FP "WithoutE$Typewriter" 25 9 0 .int := ⟨RX9, TX9, 10, tyX9, rfl, by decide, lw_9, fl_WithoutE_Typewriter_25.elim (fun _ h => h.elim fun _ h => h.elim fun _ h => by obtain ⟨h1, -, -, h2⟩ := h; cases h1; exact h2), tyX9_ok, nmX9, rfl, by decide +kernel⟩
theorem fl_WithoutE_223 : ev_FL "WithoutE" 223 9 0 := ⟨RX9, TX9, 10, rfl, by decide, lw_9, (ev_t1 111 rfl rfl)⟩
theorem fp_WithoutE_223 : ev_FP "WithoutE" 223 9 0 .int := ⟨RX9, TX9, 10, tyX9, rfl, by decide, lw_9, fl_WithoutE_223.elim (fun _ h => h.elim fun _ h => h.elim fun _ h => by obtain ⟨h1, -, -, h2⟩ := h; cases h1; exact h2), tyX9_ok, nmX9, rfl, by decide +kernel⟩
theorem fl_WithoutE_Typewriter_9 : ev_FL "WithoutE$Typewriter" 9 9 1 := ⟨RX9, TX9, 10, rfl, by decide, lw_9, (ev_t1 112 rfl rfl)⟩
theorem fl_WithoutE_Laws_50 : ev_FL "WithoutE$Laws" 50 9 1 := ⟨RX9, TX9, 10, rfl, by decide, lw_9, (ev_t1 113 rfl rfl)⟩
theorem fl_WithoutE_268 : ev_FL "WithoutE" 268 9 1 := ⟨RX9, TX9, 10, rfl, by decide, lw_9, (ev_t1 114 rfl rfl)⟩
theorem fl_WithoutE_Typewriter_34 : ev_FL "WithoutE$Typewriter" 34 9 2 := ⟨RX9, TX9, 10, rfl, by decide, lw_9, (ev_t1 115 rfl rfl)⟩
theorem fp_WithoutE_Typewriter_34 : ev_FP "WithoutE$Typewriter" 34 9 2 .int := ⟨RX9, TX9, 10, tyX9, rfl, by decide, lw_9, fl_WithoutE_Typewriter_34.elim (fun _ h => h.elim fun _ h => h.elim fun _ h => by obtain ⟨h1, -, -, h2⟩ := h; cases h1; exact h2), tyX9_ok, nmX9, rfl, by decide +kernel⟩
theorem fl_WithoutE_275 : ev_FL "WithoutE" 275 9 2 := ⟨RX9, TX9, 10, rfl, by decide, lw_9, (ev_t1 116 rfl rfl)⟩
theorem fp_WithoutE_275 : ev_FP "WithoutE" 275 9 2 .int := ⟨RX9, TX9, 10, tyX9, rfl, by decide, lw_9, fl_WithoutE_275.elim (fun _ h => h.elim fun _ h => h.elim fun _ h => by obtain ⟨h1, -, -, h2⟩ := h; cases h1; exact h2), tyX9_ok, nmX9, rfl, by decide +kernel⟩
theorem fl_WithoutE_Typewriter_37 : ev_FL "WithoutE$Typewriter" 37 9 3 := ⟨RX9, TX9, 10, rfl, by decide, lw_9, (ev_t1 117 rfl rfl)⟩
theorem fp_WithoutE_Typewriter_37 : ev_FP "WithoutE$Typewriter" 37 9 3 .int := ⟨RX9, TX9, 10, tyX9, rfl, by decide, lw_9, fl_WithoutE_Typewriter_37.elim (fun _ h => h.elim fun _ h => h.elim fun _ h => by obtain ⟨h1, -, -, h2⟩ := h; cases h1; exact h2), tyX9_ok, nmX9, rfl, by decide +kernel⟩
theorem fl_WithoutE_Laws_61 : ev_FL "WithoutE$Laws" 61 9 3 := ⟨RX9, TX9, 10, rfl, by decide, lw_9, (ev_t1 118 rfl rfl)⟩
theorem fp_WithoutE_Laws_61 : ev_FP "WithoutE$Laws" 61 9 3 .int := ⟨RX9, TX9, 10, tyX9, rfl, by decide, lw_9, fl_WithoutE_Laws_61.elim (fun _ h => h.elim fun _ h => h.elim fun _ h => by obtain ⟨h1, -, -, h2⟩ := h; cases h1; exact h2), tyX9_ok, nmX9, rfl, by decide +kernel⟩
theorem fl_WithoutE_248 : ev_FL "WithoutE" 248 9 3 := ⟨RX9, TX9, 10, rfl, by decide, lw_9, (ev_t1 119 rfl rfl)⟩
theorem fp_WithoutE_248 : ev_FP "WithoutE" 248 9 3 .int := ⟨RX9, TX9, 10, tyX9, rfl, by decide, lw_9, fl_WithoutE_248.elim (fun _ h => h.elim fun _ h => h.elim fun _ h => by obtain ⟨h1, -, -, h2⟩ := h; cases h1; exact h2), tyX9_ok, nmX9, rfl, by decide +kernel⟩
theorem fl_WithoutE_Typewriter_15 : ev_FL "WithoutE$Typewriter" 15 9 4 := ⟨RX9, TX9, 10, rfl, by decide, lw_9, (ev_t1 120 rfl rfl)⟩
theorem fp_WithoutE_Typewriter_15 : ev_FP "WithoutE$Typewriter" 15 9 4 .int := ⟨RX9, TX9, 10, tyX9, rfl, by decide, lw_9, fl_WithoutE_Typewriter_15.elim (fun _ h => h.elim fun _ h => h.elim fun _ h => by obtain ⟨h1, -, -, h2⟩ := h; cases h1; exact h2), tyX9_ok, nmX9, rfl, by decide +kernel⟩
theorem fl_WithoutE_421 : ev_FL "WithoutE" 421 9 4 := ⟨RX9, TX9, 10, rfl, by decide, lw_9, (ev_t1 121 rfl rfl)⟩
theorem fp_WithoutE_421 : ev_FP "WithoutE" 421 9 4 .int := ⟨RX9, TX9, 10, tyX9, rfl, by decide, lw_9, fl_WithoutE_421.elim (fun _ h => h.elim fun _ h => h.elim fun _ h => by obtain ⟨h1, -, -, h2⟩ := h; cases h1; exact h2), tyX9_ok, nmX9, rfl, by decide +kernel⟩
theorem fl_WithoutE_Typewriter_19 : ev_FL "WithoutE$Typewriter" 19 9 5 := ⟨RX9, TX9, 10, rfl, by decide, lw_9, (ev_t1 122 rfl rfl)⟩
theorem fl_WithoutE_Typewriter_40 : ev_FL "WithoutE$Typewriter" 40 9 6 := ⟨RX9, TX9, 10, rfl, by decide, lw_9, (ev_t1 123 rfl rfl)⟩
theorem fp_WithoutE_Typewriter_40 : ev_FP "WithoutE$Typewriter" 40 9 6 .int := ⟨RX9, TX9, 10, tyX9, rfl, by decide, lw_9, fl_WithoutE_Typewriter_40.elim (fun _ h => h.elim fun _ h => h.elim fun _ h => by obtain ⟨h1, -, -, h2⟩ := h; cases h1; exact h2), tyX9_ok, nmX9, rfl, by decide +kernel⟩
theorem fl_WithoutE_Typewriter_22 : ev_FL "WithoutE$Typewriter" 22 9 7 := ⟨RX9, TX9, 10, rfl, by decide, lw_9, (ev_t1 124 rfl rfl)⟩
theorem fl_WithoutE_Typewriter_43 : ev_FL "WithoutE$Typewriter" 43 9 8 := ⟨RX9, TX9, 10, rfl, by decide, lw_9, (ev_t1 125 rfl rfl)⟩
theorem fp_WithoutE_Typewriter_43 : ev_FP "WithoutE$Typewriter" 43 9 8 .int := ⟨RX9, TX9, 10, tyX9, rfl, by decide, lw_9, fl_WithoutE_Typewriter_43.elim (fun _ h => h.elim fun _ h => h.elim fun _ h => by obtain ⟨h1, -, -, h2⟩ := h; cases h1; exact h2), tyX9_ok, nmX9, rfl, by decide +kernel⟩
theorem fl_WithoutE_Typewriter_46 : ev_FL "WithoutE$Typewriter" 46 9 9 := ⟨RX9, TX9, 10, rfl, by decide, lw_9, (ev_t1 126 rfl rfl)⟩
theorem fp_WithoutE_Typewriter_46 : ev_FP "WithoutE$Typewriter" 46 9 9 .int := ⟨RX9, TX9, 10, tyX9, rfl, by decide, lw_9, fl_WithoutE_Typewriter_46.elim (fun _ h => h.elim fun _ h => h.elim fun _ h => by obtain ⟨h1, -, -, h2⟩ := h; cases h1; exact h2), tyX9_ok, nmX9, rfl, by decide +kernel⟩
theorem fl_WithoutE_256 : ev_FL "WithoutE" 256 9 9 := ⟨RX9, TX9, 10, rfl, by decide, lw_9, (ev_t1 127 rfl rfl)⟩
theorem fp_WithoutE_256 : ev_FP "WithoutE" 256 9 9 .int := ⟨RX9, TX9, 10, tyX9, rfl, by decide, lw_9, fl_WithoutE_256.elim (fun _ h => h.elim fun _ h => h.elim fun _ h => by obtain ⟨h1, -, -, h2⟩ := h; cases h1; exact h2), tyX9_ok, nmX9, rfl, by decide +kernel⟩
theorem fl_WithoutE_Notes_9 : ev_FL "WithoutE$Notes" 9 3 0 := ⟨RX3, TX3, 12, rfl, by decide, lw_3, (ev_t1 159 rfl rfl)⟩
theorem fl_WithoutE_Sound_54 : ev_FL "WithoutE$Sound" 54 3 0 := ⟨RX3, TX3, 12, rfl, by decide, lw_3, (ev_t1 160 rfl rfl)⟩
theorem fl_WithoutE_217 : ev_FL "WithoutE" 217 3 0 := ⟨RX3, TX3, 12, rfl, by decide, lw_3, (ev_t1 161 rfl rfl)⟩
theorem fl_WithoutE_Notes_15 : ev_FL "WithoutE$Notes" 15 3 1 := ⟨RX3, TX3, 12, rfl, by decide, lw_3, (ev_t1 162 rfl rfl)⟩
theorem fl_WithoutE_Sound_46 : ev_FL "WithoutE$Sound" 46 3 1 := ⟨RX3, TX3, 12, rfl, by decide, lw_3, (ev_t1 163 rfl rfl)⟩
theorem fl_WithoutE_220 : ev_FL "WithoutE" 220 3 1 := ⟨RX3, TX3, 12, rfl, by decide, lw_3, (ev_t1 164 rfl rfl)⟩
theorem fl_WithoutE_Notes_51 : ev_FL "WithoutE$Notes" 51 3 2 := ⟨RX3, TX3, 12, rfl, by decide, lw_3, (ev_t1 165 rfl rfl)⟩
theorem fp_WithoutE_Notes_51 : ev_FP "WithoutE$Notes" 51 3 2 .int := ⟨RX3, TX3, 12, tyX3, rfl, by decide, lw_3, fl_WithoutE_Notes_51.elim (fun _ h => h.elim fun _ h => h.elim fun _ h => by obtain ⟨h1, -, -, h2⟩ := h; cases h1; exact h2), tyX3_ok, nmX3, rfl, by decide +kernel⟩
theorem fl_WithoutE_110 : ev_FL "WithoutE" 110 3 2 := ⟨RX3, TX3, 12, rfl, by decide, lw_3, (ev_t1 166 rfl rfl)⟩
theorem fp_WithoutE_110 : ev_FP "WithoutE" 110 3 2 .int := ⟨RX3, TX3, 12, tyX3, rfl, by decide, lw_3, fl_WithoutE_110.elim (fun _ h => h.elim fun _ h => h.elim fun _ h => by obtain ⟨h1, -, -, h2⟩ := h; cases h1; exact h2), tyX3_ok, nmX3, rfl, by decide +kernel⟩
theorem fl_WithoutE_Notes_18 : ev_FL "WithoutE$Notes" 18 3 3 := ⟨RX3, TX3, 12, rfl, by decide, lw_3, (ev_t1 167 rfl rfl)⟩
theorem fp_WithoutE_Notes_18 : ev_FP "WithoutE$Notes" 18 3 3 .int := ⟨RX3, TX3, 12, tyX3, rfl, by decide, lw_3, fl_WithoutE_Notes_18.elim (fun _ h => h.elim fun _ h => h.elim fun _ h => by obtain ⟨h1, -, -, h2⟩ := h; cases h1; exact h2), tyX3_ok, nmX3, rfl, by decide +kernel⟩
theorem fl_WithoutE_130 : ev_FL "WithoutE" 130 3 3 := ⟨RX3, TX3, 12, rfl, by decide, lw_3, (ev_t1 168 rfl rfl)⟩
theorem fp_WithoutE_130 : ev_FP "WithoutE" 130 3 3 .int := ⟨RX3, TX3, 12, tyX3, rfl, by decide, lw_3, fl_WithoutE_130.elim (fun _ h => h.elim fun _ h => h.elim fun _ h => by obtain ⟨h1, -, -, h2⟩ := h; cases h1; exact h2), tyX3_ok, nmX3, rfl, by decide +kernel⟩
theorem fl_WithoutE_Notes_22 : ev_FL "WithoutE$Notes" 22 3 4 := ⟨RX3, TX3, 12, rfl, by decide, lw_3, (ev_t1 169 rfl rfl)⟩
theorem fl_WithoutE_407 : ev_FL "WithoutE" 407 3 4 := ⟨RX3, TX3, 12, rfl, by decide, lw_3, (ev_t1 170 rfl rfl)⟩
theorem fl_WithoutE_Notes_54 : ev_FL "WithoutE$Notes" 54 3 5 := ⟨RX3, TX3, 12, rfl, by decide, lw_3, (ev_t1 171 rfl rfl)⟩
theorem fp_WithoutE_Notes_54 : ev_FP "WithoutE$Notes" 54 3 5 .int := ⟨RX3, TX3, 12, tyX3, rfl, by decide, lw_3, fl_WithoutE_Notes_54.elim (fun _ h => h.elim fun _ h => h.elim fun _ h => by obtain ⟨h1, -, -, h2⟩ := h; cases h1; exact h2), tyX3_ok, nmX3, rfl, by decide +kernel⟩
theorem fl_WithoutE_404 : ev_FL "WithoutE" 404 3 5 := ⟨RX3, TX3, 12, rfl, by decide, lw_3, (ev_t1 172 rfl rfl)⟩
theorem fp_WithoutE_404 : ev_FP "WithoutE" 404 3 5 .int := ⟨RX3, TX3, 12, tyX3, rfl, by decide, lw_3, fl_WithoutE_404.elim (fun _ h => h.elim fun _ h => h.elim fun _ h => by obtain ⟨h1, -, -, h2⟩ := h; cases h1; exact h2), tyX3_ok, nmX3, rfl, by decide +kernel⟩
theorem fl_WithoutE_Notes_27 : ev_FL "WithoutE$Notes" 27 3 6 := ⟨RX3, TX3, 12, rfl, by decide, lw_3, (ev_t1 173 rfl rfl)⟩
theorem fl_WithoutE_443 : ev_FL "WithoutE" 443 3 6 := ⟨RX3, TX3, 12, rfl, by decide, lw_3, (ev_t1 174 rfl rfl)⟩
theorem fl_WithoutE_Notes_30 : ev_FL "WithoutE$Notes" 30 3 7 := ⟨RX3, TX3, 12, rfl, by decide, lw_3, (ev_t1 175 rfl rfl)⟩
theorem fl_WithoutE_446 : ev_FL "WithoutE" 446 3 7 := ⟨RX3, TX3, 12, rfl, by decide, lw_3, (ev_t1 176 rfl rfl)⟩
theorem fl_WithoutE_Notes_57 : ev_FL "WithoutE$Notes" 57 3 8 := ⟨RX3, TX3, 12, rfl, by decide, lw_3, (ev_t1 177 rfl rfl)⟩
theorem fp_WithoutE_Notes_57 : ev_FP "WithoutE$Notes" 57 3 8 .int := ⟨RX3, TX3, 12, tyX3, rfl, by decide, lw_3, fl_WithoutE_Notes_57.elim (fun _ h => h.elim fun _ h => h.elim fun _ h => by obtain ⟨h1, -, -, h2⟩ := h; cases h1; exact h2), tyX3_ok, nmX3, rfl, by decide +kernel⟩
theorem fl_WithoutE_440 : ev_FL "WithoutE" 440 3 8 := ⟨RX3, TX3, 12, rfl, by decide, lw_3, (ev_t1 178 rfl rfl)⟩
theorem fp_WithoutE_440 : ev_FP "WithoutE" 440 3 8 .int := ⟨RX3, TX3, 12, tyX3, rfl, by decide, lw_3, fl_WithoutE_440.elim (fun _ h => h.elim fun _ h => h.elim fun _ h => by obtain ⟨h1, -, -, h2⟩ := h; cases h1; exact h2), tyX3_ok, nmX3, rfl, by decide +kernel⟩
theorem fl_WithoutE_Notes_33 : ev_FL "WithoutE$Notes" 33 3 9 := ⟨RX3, TX3, 12, rfl, by decide, lw_3, (ev_t1 179 rfl rfl)⟩
theorem fl_WithoutE_373 : ev_FL "WithoutE" 373 3 9 := ⟨RX3, TX3, 12, rfl, by decide, lw_3, (ev_t1 180 rfl rfl)⟩
theorem fl_WithoutE_Notes_36 : ev_FL "WithoutE$Notes" 36 3 10 := ⟨RX3, TX3, 12, rfl, by decide, lw_3, (ev_t1 181 rfl rfl)⟩
theorem fl_WithoutE_376 : ev_FL "WithoutE" 376 3 10 := ⟨RX3, TX3, 12, rfl, by decide, lw_3, (ev_t1 182 rfl rfl)⟩
theorem fl_WithoutE_Notes_60 : ev_FL "WithoutE$Notes" 60 3 11 := ⟨RX3, TX3, 12, rfl, by decide, lw_3, (ev_t1 183 rfl rfl)⟩
theorem fp_WithoutE_Notes_60 : ev_FP "WithoutE$Notes" 60 3 11 .int := ⟨RX3, TX3, 12, tyX3, rfl, by decide, lw_3, fl_WithoutE_Notes_60.elim (fun _ h => h.elim fun _ h => h.elim fun _ h => by obtain ⟨h1, -, -, h2⟩ := h; cases h1; exact h2), tyX3_ok, nmX3, rfl, by decide +kernel⟩
theorem fl_WithoutE_370 : ev_FL "WithoutE" 370 3 11 := ⟨RX3, TX3, 12, rfl, by decide, lw_3, (ev_t1 184 rfl rfl)⟩
theorem fp_WithoutE_370 : ev_FP "WithoutE" 370 3 11 .int := ⟨RX3, TX3, 12, tyX3, rfl, by decide, lw_3, fl_WithoutE_370.elim (fun _ h => h.elim fun _ h => h.elim fun _ h => by obtain ⟨h1, -, -, h2⟩ := h; cases h1; exact h2), tyX3_ok, nmX3, rfl, by decide +kernel⟩
theorem fl_WithoutE_Reader_15 : ev_FL "WithoutE$Reader" 15 4 0 := ⟨RX4, TX4, 9, rfl, by decide, lw_4, (ev_t1 218 rfl rfl)⟩
theorem fl_WithoutE_Reader_19 : ev_FL "WithoutE$Reader" 19 4 1 := ⟨RX4, TX4, 9, rfl, by decide, lw_4, (ev_t1 219 rfl rfl)⟩
theorem fp_WithoutE_Reader_19 : ev_FP "WithoutE$Reader" 19 4 1 (.object "WithoutE$Text") := ⟨RX4, TX4, 9, tyX4, rfl, by decide, lw_4, fl_WithoutE_Reader_19.elim (fun _ h => h.elim fun _ h => h.elim fun _ h => by obtain ⟨h1, -, -, h2⟩ := h; cases h1; exact h2), tyX4_ok, nmX4, rfl, by decide +kernel⟩
theorem fl_WithoutE_Reader_28 : ev_FL "WithoutE$Reader" 28 4 2 := ⟨RX4, TX4, 9, rfl, by decide, lw_4, (ev_t1 220 rfl rfl)⟩
theorem fp_WithoutE_Reader_28 : ev_FP "WithoutE$Reader" 28 4 2 .boolean := ⟨RX4, TX4, 9, tyX4, rfl, by decide, lw_4, fl_WithoutE_Reader_28.elim (fun _ h => h.elim fun _ h => h.elim fun _ h => by obtain ⟨h1, -, -, h2⟩ := h; cases h1; exact h2), tyX4_ok, nmX4, rfl, by decide +kernel⟩
theorem fl_WithoutE_116 : ev_FL "WithoutE" 116 4 2 := ⟨RX4, TX4, 9, rfl, by decide, lw_4, (ev_t1 221 rfl rfl)⟩
theorem fp_WithoutE_116 : ev_FP "WithoutE" 116 4 2 .boolean := ⟨RX4, TX4, 9, tyX4, rfl, by decide, lw_4, fl_WithoutE_116.elim (fun _ h => h.elim fun _ h => h.elim fun _ h => by obtain ⟨h1, -, -, h2⟩ := h; cases h1; exact h2), tyX4_ok, nmX4, rfl, by decide +kernel⟩
theorem fl_WithoutE_Reader_32 : ev_FL "WithoutE$Reader" 32 4 3 := ⟨RX4, TX4, 9, rfl, by decide, lw_4, (ev_t1 222 rfl rfl)⟩
theorem fp_WithoutE_Reader_32 : ev_FP "WithoutE$Reader" 32 4 3 .int := ⟨RX4, TX4, 9, tyX4, rfl, by decide, lw_4, fl_WithoutE_Reader_32.elim (fun _ h => h.elim fun _ h => h.elim fun _ h => by obtain ⟨h1, -, -, h2⟩ := h; cases h1; exact h2), tyX4_ok, nmX4, rfl, by decide +kernel⟩
theorem fl_WithoutE_120 : ev_FL "WithoutE" 120 4 3 := ⟨RX4, TX4, 9, rfl, by decide, lw_4, (ev_t1 223 rfl rfl)⟩
theorem fp_WithoutE_120 : ev_FP "WithoutE" 120 4 3 .int := ⟨RX4, TX4, 9, tyX4, rfl, by decide, lw_4, fl_WithoutE_120.elim (fun _ h => h.elim fun _ h => h.elim fun _ h => by obtain ⟨h1, -, -, h2⟩ := h; cases h1; exact h2), tyX4_ok, nmX4, rfl, by decide +kernel⟩
theorem fl_WithoutE_Reader_9 : ev_FL "WithoutE$Reader" 9 4 4 := ⟨RX4, TX4, 9, rfl, by decide, lw_4, (ev_t1 224 rfl rfl)⟩
theorem fp_WithoutE_Reader_9 : ev_FP "WithoutE$Reader" 9 4 4 .int := ⟨RX4, TX4, 9, tyX4, rfl, by decide, lw_4, fl_WithoutE_Reader_9.elim (fun _ h => h.elim fun _ h => h.elim fun _ h => by obtain ⟨h1, -, -, h2⟩ := h; cases h1; exact h2), tyX4_ok, nmX4, rfl, by decide +kernel⟩
theorem fl_WithoutE_123 : ev_FL "WithoutE" 123 4 4 := ⟨RX4, TX4, 9, rfl, by decide, lw_4, (ev_t1 225 rfl rfl)⟩
theorem fp_WithoutE_123 : ev_FP "WithoutE" 123 4 4 .int := ⟨RX4, TX4, 9, tyX4, rfl, by decide, lw_4, fl_WithoutE_123.elim (fun _ h => h.elim fun _ h => h.elim fun _ h => by obtain ⟨h1, -, -, h2⟩ := h; cases h1; exact h2), tyX4_ok, nmX4, rfl, by decide +kernel⟩
theorem fl_WithoutE_Reader_41 : ev_FL "WithoutE$Reader" 41 4 5 := ⟨RX4, TX4, 9, rfl, by decide, lw_4, (ev_t1 226 rfl rfl)⟩
theorem fp_WithoutE_Reader_41 : ev_FP "WithoutE$Reader" 41 4 5 .int := ⟨RX4, TX4, 9, tyX4, rfl, by decide, lw_4, fl_WithoutE_Reader_41.elim (fun _ h => h.elim fun _ h => h.elim fun _ h => by obtain ⟨h1, -, -, h2⟩ := h; cases h1; exact h2), tyX4_ok, nmX4, rfl, by decide +kernel⟩
theorem fl_WithoutE_Reader_48 : ev_FL "WithoutE$Reader" 48 4 6 := ⟨RX4, TX4, 9, rfl, by decide, lw_4, (ev_t1 227 rfl rfl)⟩
theorem fp_WithoutE_Reader_48 : ev_FP "WithoutE$Reader" 48 4 6 .int := ⟨RX4, TX4, 9, tyX4, rfl, by decide, lw_4, fl_WithoutE_Reader_48.elim (fun _ h => h.elim fun _ h => h.elim fun _ h => by obtain ⟨h1, -, -, h2⟩ := h; cases h1; exact h2), tyX4_ok, nmX4, rfl, by decide +kernel⟩
theorem fl_WithoutE_Reader_35 : ev_FL "WithoutE$Reader" 35 4 7 := ⟨RX4, TX4, 9, rfl, by decide, lw_4, (ev_t1 228 rfl rfl)⟩
theorem fp_WithoutE_Reader_35 : ev_FP "WithoutE$Reader" 35 4 7 .int := ⟨RX4, TX4, 9, tyX4, rfl, by decide, lw_4, fl_WithoutE_Reader_35.elim (fun _ h => h.elim fun _ h => h.elim fun _ h => by obtain ⟨h1, -, -, h2⟩ := h; cases h1; exact h2), tyX4_ok, nmX4, rfl, by decide +kernel⟩
theorem fl_WithoutE_Reader_99 : ev_FL "WithoutE$Reader" 99 4 8 := ⟨RX4, TX4, 9, rfl, by decide, lw_4, (ev_t1 229 rfl rfl)⟩
theorem fp_WithoutE_Reader_99 : ev_FP "WithoutE$Reader" 99 4 8 .int := ⟨RX4, TX4, 9, tyX4, rfl, by decide, lw_4, fl_WithoutE_Reader_99.elim (fun _ h => h.elim fun _ h => h.elim fun _ h => by obtain ⟨h1, -, -, h2⟩ := h; cases h1; exact h2), tyX4_ok, nmX4, rfl, by decide +kernel⟩
theorem fl_WithoutE_Text_9 : ev_FL "WithoutE$Text" 9 8 0 := ⟨RX8, TX8, 6, rfl, by decide, lw_8, (ev_t2 14 rfl rfl)⟩
theorem fl_WithoutE_Laws_71 : ev_FL "WithoutE$Laws" 71 8 0 := ⟨RX8, TX8, 6, rfl, by decide, lw_8, (ev_t2 15 rfl rfl)⟩
theorem fl_WithoutE_147 : ev_FL "WithoutE" 147 8 0 := ⟨RX8, TX8, 6, rfl, by decide, lw_8, (ev_t2 16 rfl rfl)⟩
theorem fl_WithoutE_Text_24 : ev_FL "WithoutE$Text" 24 8 1 := ⟨RX8, TX8, 6, rfl, by decide, lw_8, (ev_t2 17 rfl rfl)⟩
theorem fp_WithoutE_Text_24 : ev_FP "WithoutE$Text" 24 8 1 .int := ⟨RX8, TX8, 6, tyX8, rfl, by decide, lw_8, fl_WithoutE_Text_24.elim (fun _ h => h.elim fun _ h => h.elim fun _ h => by obtain ⟨h1, -, -, h2⟩ := h; cases h1; exact h2), tyX8_ok, nmX8, rfl, by decide +kernel⟩
theorem fl_WithoutE_Laws_68 : ev_FL "WithoutE$Laws" 68 8 1 := ⟨RX8, TX8, 6, rfl, by decide, lw_8, (ev_t2 18 rfl rfl)⟩
theorem fp_WithoutE_Laws_68 : ev_FP "WithoutE$Laws" 68 8 1 .int := ⟨RX8, TX8, 6, tyX8, rfl, by decide, lw_8, fl_WithoutE_Laws_68.elim (fun _ h => h.elim fun _ h => h.elim fun _ h => by obtain ⟨h1, -, -, h2⟩ := h; cases h1; exact h2), tyX8_ok, nmX8, rfl, by decide +kernel⟩
theorem fl_WithoutE_Reader_147 : ev_FL "WithoutE$Reader" 147 8 1 := ⟨RX8, TX8, 6, rfl, by decide, lw_8, (ev_t2 19 rfl rfl)⟩
theorem fp_WithoutE_Reader_147 : ev_FP "WithoutE$Reader" 147 8 1 .int := ⟨RX8, TX8, 6, tyX8, rfl, by decide, lw_8, fl_WithoutE_Reader_147.elim (fun _ h => h.elim fun _ h => h.elim fun _ h => by obtain ⟨h1, -, -, h2⟩ := h; cases h1; exact h2), tyX8_ok, nmX8, rfl, by decide +kernel⟩
theorem fl_WithoutE_Text_15 : ev_FL "WithoutE$Text" 15 8 2 := ⟨RX8, TX8, 6, rfl, by decide, lw_8, (ev_t2 20 rfl rfl)⟩
theorem fl_WithoutE_144 : ev_FL "WithoutE" 144 8 2 := ⟨RX8, TX8, 6, rfl, by decide, lw_8, (ev_t2 21 rfl rfl)⟩
theorem fl_WithoutE_Text_18 : ev_FL "WithoutE$Text" 18 8 3 := ⟨RX8, TX8, 6, rfl, by decide, lw_8, (ev_t2 22 rfl rfl)⟩
theorem fl_WithoutE_150 : ev_FL "WithoutE" 150 8 3 := ⟨RX8, TX8, 6, rfl, by decide, lw_8, (ev_t2 23 rfl rfl)⟩
theorem fl_WithoutE_Text_28 : ev_FL "WithoutE$Text" 28 8 4 := ⟨RX8, TX8, 6, rfl, by decide, lw_8, (ev_t2 24 rfl rfl)⟩
theorem fp_WithoutE_Text_28 : ev_FP "WithoutE$Text" 28 8 4 .int := ⟨RX8, TX8, 6, tyX8, rfl, by decide, lw_8, fl_WithoutE_Text_28.elim (fun _ h => h.elim fun _ h => h.elim fun _ h => by obtain ⟨h1, -, -, h2⟩ := h; cases h1; exact h2), tyX8_ok, nmX8, rfl, by decide +kernel⟩
theorem fl_WithoutE_133 : ev_FL "WithoutE" 133 8 4 := ⟨RX8, TX8, 6, rfl, by decide, lw_8, (ev_t2 25 rfl rfl)⟩
theorem fp_WithoutE_133 : ev_FP "WithoutE" 133 8 4 .int := ⟨RX8, TX8, 6, tyX8, rfl, by decide, lw_8, fl_WithoutE_133.elim (fun _ h => h.elim fun _ h => h.elim fun _ h => by obtain ⟨h1, -, -, h2⟩ := h; cases h1; exact h2), tyX8_ok, nmX8, rfl, by decide +kernel⟩
theorem fl_WithoutE_Text_21 : ev_FL "WithoutE$Text" 21 8 5 := ⟨RX8, TX8, 6, rfl, by decide, lw_8, (ev_t2 26 rfl rfl)⟩
theorem fl_WithoutE_Laws_26 : ev_FL "WithoutE$Laws" 26 8 5 := ⟨RX8, TX8, 6, rfl, by decide, lw_8, (ev_t2 27 rfl rfl)⟩
theorem fl_WithoutE_Reader_92 : ev_FL "WithoutE$Reader" 92 8 5 := ⟨RX8, TX8, 6, rfl, by decide, lw_8, (ev_t2 28 rfl rfl)⟩
theorem fl_WithoutE_Sound_9 : ev_FL "WithoutE$Sound" 9 5 0 := ⟨RX5, TX5, 2, rfl, by decide, lw_5, (ev_t2 48 rfl rfl)⟩
theorem fl_WithoutE_Sound_15 : ev_FL "WithoutE$Sound" 15 5 1 := ⟨RX5, TX5, 2, rfl, by decide, lw_5, (ev_t2 49 rfl rfl)⟩
theorem fl_WithoutE_Laws_18 : ev_FL "WithoutE$Laws" 18 1 0 := ⟨RX1, TX1, 5, rfl, by decide, lw_1, (ev_t2 61 rfl rfl)⟩
theorem fl_WithoutE_Laws_22 : ev_FL "WithoutE$Laws" 22 1 1 := ⟨RX1, TX1, 5, rfl, by decide, lw_1, (ev_t2 62 rfl rfl)⟩
theorem fl_WithoutE_Laws_9 : ev_FL "WithoutE$Laws" 9 1 2 := ⟨RX1, TX1, 5, rfl, by decide, lw_1, (ev_t2 63 rfl rfl)⟩
theorem fl_WithoutE_Laws_15 : ev_FL "WithoutE$Laws" 15 1 3 := ⟨RX1, TX1, 5, rfl, by decide, lw_1, (ev_t2 64 rfl rfl)⟩
theorem fl_WithoutE_Laws_65 : ev_FL "WithoutE$Laws" 65 1 4 := ⟨RX1, TX1, 5, rfl, by decide, lw_1, (ev_t2 65 rfl rfl)⟩
theorem fp_WithoutE_Laws_65 : ev_FP "WithoutE$Laws" 65 1 4 .int := ⟨RX1, TX1, 5, tyX1, rfl, by decide, lw_1, fl_WithoutE_Laws_65.elim (fun _ h => h.elim fun _ h => h.elim fun _ h => by obtain ⟨h1, -, -, h2⟩ := h; cases h1; exact h2), tyX1_ok, nmX1, rfl, by decide +kernel⟩
theorem fl_WithoutE_Lowest_10 : ev_FL "WithoutE$Lowest" 10 2 0 := ⟨RX2, TX2, 3, rfl, by decide, lw_2, (ev_t2 90 rfl rfl)⟩
theorem fp_WithoutE_Lowest_10 : ev_FP "WithoutE$Lowest" 10 2 0 .int := ⟨RX2, TX2, 3, tyX2, rfl, by decide, lw_2, fl_WithoutE_Lowest_10.elim (fun _ h => h.elim fun _ h => h.elim fun _ h => by obtain ⟨h1, -, -, h2⟩ := h; cases h1; exact h2), tyX2_ok, nmX2, rfl, by decide +kernel⟩
theorem fl_WithoutE_Speech_133 : ev_FL "WithoutE$Speech" 133 2 0 := ⟨RX2, TX2, 3, rfl, by decide, lw_2, (ev_t2 91 rfl rfl)⟩
theorem fp_WithoutE_Speech_133 : ev_FP "WithoutE$Speech" 133 2 0 .int := ⟨RX2, TX2, 3, tyX2, rfl, by decide, lw_2, fl_WithoutE_Speech_133.elim (fun _ h => h.elim fun _ h => h.elim fun _ h => by obtain ⟨h1, -, -, h2⟩ := h; cases h1; exact h2), tyX2_ok, nmX2, rfl, by decide +kernel⟩
theorem fl_WithoutE_Lowest_16 : ev_FL "WithoutE$Lowest" 16 2 1 := ⟨RX2, TX2, 3, rfl, by decide, lw_2, (ev_t2 92 rfl rfl)⟩
theorem fp_WithoutE_Lowest_16 : ev_FP "WithoutE$Lowest" 16 2 1 .int := ⟨RX2, TX2, 3, tyX2, rfl, by decide, lw_2, fl_WithoutE_Lowest_16.elim (fun _ h => h.elim fun _ h => h.elim fun _ h => by obtain ⟨h1, -, -, h2⟩ := h; cases h1; exact h2), tyX2_ok, nmX2, rfl, by decide +kernel⟩
theorem fl_WithoutE_Lowest_19 : ev_FL "WithoutE$Lowest" 19 2 2 := ⟨RX2, TX2, 3, rfl, by decide, lw_2, (ev_t2 93 rfl rfl)⟩
theorem fp_WithoutE_Lowest_19 : ev_FP "WithoutE$Lowest" 19 2 2 .int := ⟨RX2, TX2, 3, tyX2, rfl, by decide, lw_2, fl_WithoutE_Lowest_19.elim (fun _ h => h.elim fun _ h => h.elim fun _ h => by obtain ⟨h1, -, -, h2⟩ := h; cases h1; exact h2), tyX2_ok, nmX2, rfl, by decide +kernel⟩
theorem fl_WithoutE_Speech_47 : ev_FL "WithoutE$Speech" 47 6 0 := ⟨RX6, TX6, 18, rfl, by decide, lw_6, (ev_t2 102 rfl rfl)⟩
theorem fl_WithoutE_Speech_51 : ev_FL "WithoutE$Speech" 51 6 1 := ⟨RX6, TX6, 18, rfl, by decide, lw_6, (ev_t2 103 rfl rfl)⟩
theorem fl_WithoutE_Speech_55 : ev_FL "WithoutE$Speech" 55 6 2 := ⟨RX6, TX6, 18, rfl, by decide, lw_6, (ev_t2 104 rfl rfl)⟩
theorem fl_WithoutE_Speech_59 : ev_FL "WithoutE$Speech" 59 6 3 := ⟨RX6, TX6, 18, rfl, by decide, lw_6, (ev_t2 105 rfl rfl)⟩
theorem fp_WithoutE_Speech_59 : ev_FP "WithoutE$Speech" 59 6 3 .int := ⟨RX6, TX6, 18, tyX6, rfl, by decide, lw_6, fl_WithoutE_Speech_59.elim (fun _ h => h.elim fun _ h => h.elim fun _ h => by obtain ⟨h1, -, -, h2⟩ := h; cases h1; exact h2), tyX6_ok, nmX6, rfl, by decide +kernel⟩
theorem fl_WithoutE_Speech_9 : ev_FL "WithoutE$Speech" 9 6 4 := ⟨RX6, TX6, 18, rfl, by decide, lw_6, (ev_t2 106 rfl rfl)⟩
theorem fl_WithoutE_Speech_15 : ev_FL "WithoutE$Speech" 15 6 5 := ⟨RX6, TX6, 18, rfl, by decide, lw_6, (ev_t2 107 rfl rfl)⟩
theorem fl_WithoutE_Speech_19 : ev_FL "WithoutE$Speech" 19 6 6 := ⟨RX6, TX6, 18, rfl, by decide, lw_6, (ev_t2 108 rfl rfl)⟩
theorem fl_WithoutE_Speech_22 : ev_FL "WithoutE$Speech" 22 6 7 := ⟨RX6, TX6, 18, rfl, by decide, lw_6, (ev_t2 109 rfl rfl)⟩
theorem fl_WithoutE_Speech_25 : ev_FL "WithoutE$Speech" 25 6 8 := ⟨RX6, TX6, 18, rfl, by decide, lw_6, (ev_t2 110 rfl rfl)⟩
theorem fp_WithoutE_Speech_25 : ev_FP "WithoutE$Speech" 25 6 8 .int := ⟨RX6, TX6, 18, tyX6, rfl, by decide, lw_6, fl_WithoutE_Speech_25.elim (fun _ h => h.elim fun _ h => h.elim fun _ h => by obtain ⟨h1, -, -, h2⟩ := h; cases h1; exact h2), tyX6_ok, nmX6, rfl, by decide +kernel⟩
theorem fl_WithoutE_Speech_31 : ev_FL "WithoutE$Speech" 31 6 9 := ⟨RX6, TX6, 18, rfl, by decide, lw_6, (ev_t2 111 rfl rfl)⟩
theorem fl_WithoutE_Speech_37 : ev_FL "WithoutE$Speech" 37 6 10 := ⟨RX6, TX6, 18, rfl, by decide, lw_6, (ev_t2 112 rfl rfl)⟩
theorem fl_WithoutE_Speech_41 : ev_FL "WithoutE$Speech" 41 6 11 := ⟨RX6, TX6, 18, rfl, by decide, lw_6, (ev_t2 113 rfl rfl)⟩
theorem fl_WithoutE_Speech_44 : ev_FL "WithoutE$Speech" 44 6 12 := ⟨RX6, TX6, 18, rfl, by decide, lw_6, (ev_t2 114 rfl rfl)⟩
theorem fl_WithoutE_325 : ev_FL "WithoutE" 325 6 12 := ⟨RX6, TX6, 18, rfl, by decide, lw_6, (ev_t2 115 rfl rfl)⟩
theorem fl_WithoutE_Speech_145 : ev_FL "WithoutE$Speech" 145 6 13 := ⟨RX6, TX6, 18, rfl, by decide, lw_6, (ev_t2 116 rfl rfl)⟩
theorem fp_WithoutE_Speech_145 : ev_FP "WithoutE$Speech" 145 6 13 .int := ⟨RX6, TX6, 18, tyX6, rfl, by decide, lw_6, fl_WithoutE_Speech_145.elim (fun _ h => h.elim fun _ h => h.elim fun _ h => by obtain ⟨h1, -, -, h2⟩ := h; cases h1; exact h2), tyX6_ok, nmX6, rfl, by decide +kernel⟩
theorem fl_WithoutE_322 : ev_FL "WithoutE" 322 6 13 := ⟨RX6, TX6, 18, rfl, by decide, lw_6, (ev_t2 117 rfl rfl)⟩
theorem fp_WithoutE_322 : ev_FP "WithoutE" 322 6 13 .int := ⟨RX6, TX6, 18, tyX6, rfl, by decide, lw_6, fl_WithoutE_322.elim (fun _ h => h.elim fun _ h => h.elim fun _ h => by obtain ⟨h1, -, -, h2⟩ := h; cases h1; exact h2), tyX6_ok, nmX6, rfl, by decide +kernel⟩
theorem fl_WithoutE_Speech_142 : ev_FL "WithoutE$Speech" 142 6 14 := ⟨RX6, TX6, 18, rfl, by decide, lw_6, (ev_t2 118 rfl rfl)⟩
theorem fp_WithoutE_Speech_142 : ev_FP "WithoutE$Speech" 142 6 14 .int := ⟨RX6, TX6, 18, tyX6, rfl, by decide, lw_6, fl_WithoutE_Speech_142.elim (fun _ h => h.elim fun _ h => h.elim fun _ h => by obtain ⟨h1, -, -, h2⟩ := h; cases h1; exact h2), tyX6_ok, nmX6, rfl, by decide +kernel⟩
theorem fl_WithoutE_245 : ev_FL "WithoutE" 245 6 14 := ⟨RX6, TX6, 18, rfl, by decide, lw_6, (ev_t2 119 rfl rfl)⟩
theorem fp_WithoutE_245 : ev_FP "WithoutE" 245 6 14 .int := ⟨RX6, TX6, 18, tyX6, rfl, by decide, lw_6, fl_WithoutE_245.elim (fun _ h => h.elim fun _ h => h.elim fun _ h => by obtain ⟨h1, -, -, h2⟩ := h; cases h1; exact h2), tyX6_ok, nmX6, rfl, by decide +kernel⟩
theorem fl_WithoutE_Speech_147 : ev_FL "WithoutE$Speech" 147 6 15 := ⟨RX6, TX6, 18, rfl, by decide, lw_6, (ev_t2 120 rfl rfl)⟩
theorem fp_WithoutE_Speech_147 : ev_FP "WithoutE$Speech" 147 6 15 .int := ⟨RX6, TX6, 18, tyX6, rfl, by decide, lw_6, fl_WithoutE_Speech_147.elim (fun _ h => h.elim fun _ h => h.elim fun _ h => by obtain ⟨h1, -, -, h2⟩ := h; cases h1; exact h2), tyX6_ok, nmX6, rfl, by decide +kernel⟩
theorem fl_WithoutE_278 : ev_FL "WithoutE" 278 6 15 := ⟨RX6, TX6, 18, rfl, by decide, lw_6, (ev_t2 121 rfl rfl)⟩
theorem fp_WithoutE_278 : ev_FP "WithoutE" 278 6 15 .int := ⟨RX6, TX6, 18, tyX6, rfl, by decide, lw_6, fl_WithoutE_278.elim (fun _ h => h.elim fun _ h => h.elim fun _ h => by obtain ⟨h1, -, -, h2⟩ := h; cases h1; exact h2), tyX6_ok, nmX6, rfl, by decide +kernel⟩
theorem fl_WithoutE_Speech_150 : ev_FL "WithoutE$Speech" 150 6 16 := ⟨RX6, TX6, 18, rfl, by decide, lw_6, (ev_t2 122 rfl rfl)⟩
theorem fp_WithoutE_Speech_150 : ev_FP "WithoutE$Speech" 150 6 16 .int := ⟨RX6, TX6, 18, tyX6, rfl, by decide, lw_6, fl_WithoutE_Speech_150.elim (fun _ h => h.elim fun _ h => h.elim fun _ h => by obtain ⟨h1, -, -, h2⟩ := h; cases h1; exact h2), tyX6_ok, nmX6, rfl, by decide +kernel⟩
theorem fl_WithoutE_321 : ev_FL "WithoutE" 321 6 16 := ⟨RX6, TX6, 18, rfl, by decide, lw_6, (ev_t2 123 rfl rfl)⟩
theorem fp_WithoutE_321 : ev_FP "WithoutE" 321 6 16 .int := ⟨RX6, TX6, 18, tyX6, rfl, by decide, lw_6, fl_WithoutE_321.elim (fun _ h => h.elim fun _ h => h.elim fun _ h => by obtain ⟨h1, -, -, h2⟩ := h; cases h1; exact h2), tyX6_ok, nmX6, rfl, by decide +kernel⟩
theorem fl_WithoutE_Speech_153 : ev_FL "WithoutE$Speech" 153 6 17 := ⟨RX6, TX6, 18, rfl, by decide, lw_6, (ev_t2 124 rfl rfl)⟩
theorem fp_WithoutE_Speech_153 : ev_FP "WithoutE$Speech" 153 6 17 .int := ⟨RX6, TX6, 18, tyX6, rfl, by decide, lw_6, fl_WithoutE_Speech_153.elim (fun _ h => h.elim fun _ h => h.elim fun _ h => by obtain ⟨h1, -, -, h2⟩ := h; cases h1; exact h2), tyX6_ok, nmX6, rfl, by decide +kernel⟩
theorem fl_WithoutE_427 : ev_FL "WithoutE" 427 6 17 := ⟨RX6, TX6, 18, rfl, by decide, lw_6, (ev_t2 125 rfl rfl)⟩
theorem fp_WithoutE_427 : ev_FP "WithoutE" 427 6 17 .int := ⟨RX6, TX6, 18, tyX6, rfl, by decide, lw_6, fl_WithoutE_427.elim (fun _ h => h.elim fun _ h => h.elim fun _ h => by obtain ⟨h1, -, -, h2⟩ := h; cases h1; exact h2), tyX6_ok, nmX6, rfl, by decide +kernel⟩
theorem fl_WithoutE_10 : ev_FL "WithoutE" 10 10 0 := ⟨RX10, TX10, 18, rfl, by decide, lw_10, (ev_t2 163 rfl rfl)⟩
theorem fl_WithoutE_19 : ev_FL "WithoutE" 19 10 1 := ⟨RX10, TX10, 18, rfl, by decide, lw_10, (ev_t2 164 rfl rfl)⟩
theorem fl_WithoutE_26 : ev_FL "WithoutE" 26 10 2 := ⟨RX10, TX10, 18, rfl, by decide, lw_10, (ev_t2 165 rfl rfl)⟩
theorem fl_WithoutE_33 : ev_FL "WithoutE" 33 10 3 := ⟨RX10, TX10, 18, rfl, by decide, lw_10, (ev_t2 166 rfl rfl)⟩
theorem fl_WithoutE_39 : ev_FL "WithoutE" 39 10 4 := ⟨RX10, TX10, 18, rfl, by decide, lw_10, (ev_t2 167 rfl rfl)⟩
theorem fl_WithoutE_48 : ev_FL "WithoutE" 48 10 5 := ⟨RX10, TX10, 18, rfl, by decide, lw_10, (ev_t2 168 rfl rfl)⟩
theorem fl_WithoutE_80 : ev_FL "WithoutE" 80 10 6 := ⟨RX10, TX10, 18, rfl, by decide, lw_10, (ev_t2 169 rfl rfl)⟩
theorem fl_WithoutE_89 : ev_FL "WithoutE" 89 10 7 := ⟨RX10, TX10, 18, rfl, by decide, lw_10, (ev_t2 170 rfl rfl)⟩
theorem fl_WithoutE_98 : ev_FL "WithoutE" 98 10 8 := ⟨RX10, TX10, 18, rfl, by decide, lw_10, (ev_t2 171 rfl rfl)⟩
theorem fl_WithoutE_52 : ev_FL "WithoutE" 52 10 9 := ⟨RX10, TX10, 18, rfl, by decide, lw_10, (ev_t2 172 rfl rfl)⟩
theorem fl_WithoutE_55 : ev_FL "WithoutE" 55 10 10 := ⟨RX10, TX10, 18, rfl, by decide, lw_10, (ev_t2 173 rfl rfl)⟩
theorem fl_WithoutE_58 : ev_FL "WithoutE" 58 10 11 := ⟨RX10, TX10, 18, rfl, by decide, lw_10, (ev_t2 174 rfl rfl)⟩
theorem fl_WithoutE_62 : ev_FL "WithoutE" 62 10 12 := ⟨RX10, TX10, 18, rfl, by decide, lw_10, (ev_t2 175 rfl rfl)⟩
theorem fl_WithoutE_65 : ev_FL "WithoutE" 65 10 13 := ⟨RX10, TX10, 18, rfl, by decide, lw_10, (ev_t2 176 rfl rfl)⟩
theorem fl_WithoutE_68 : ev_FL "WithoutE" 68 10 14 := ⟨RX10, TX10, 18, rfl, by decide, lw_10, (ev_t2 177 rfl rfl)⟩
theorem fl_WithoutE_71 : ev_FL "WithoutE" 71 10 15 := ⟨RX10, TX10, 18, rfl, by decide, lw_10, (ev_t2 178 rfl rfl)⟩
theorem fl_WithoutE_475 : ev_FL "WithoutE" 475 10 16 := ⟨RX10, TX10, 18, rfl, by decide, lw_10, (ev_t2 179 rfl rfl)⟩
theorem fp_WithoutE_475 : ev_FP "WithoutE" 475 10 16 .int := ⟨RX10, TX10, 18, tyX10, rfl, by decide, lw_10, fl_WithoutE_475.elim (fun _ h => h.elim fun _ h => h.elim fun _ h => by obtain ⟨h1, -, -, h2⟩ := h; cases h1; exact h2), tyX10_ok, nmX10, rfl, by decide +kernel⟩
theorem fl_WithoutE_478 : ev_FL "WithoutE" 478 10 17 := ⟨RX10, TX10, 18, rfl, by decide, lw_10, (ev_t2 180 rfl rfl)⟩
theorem fp_WithoutE_478 : ev_FP "WithoutE" 478 10 17 .int := ⟨RX10, TX10, 18, tyX10, rfl, by decide, lw_10, fl_WithoutE_478.elim (fun _ h => h.elim fun _ h => h.elim fun _ h => by obtain ⟨h1, -, -, h2⟩ := h; cases h1; exact h2), tyX10_ok, nmX10, rfl, by decide +kernel⟩
theorem fl_WithoutEModel_7 : ev_FL "WithoutEModel" 7 11 0 := ⟨RX11, TX11, 35, rfl, by decide, lw_11, (ev_t6 23 rfl rfl)⟩
theorem fl_WithoutEModel_13 : ev_FL "WithoutEModel" 13 11 1 := ⟨RX11, TX11, 35, rfl, by decide, lw_11, (ev_t6 24 rfl rfl)⟩
theorem fl_WithoutEModel_16 : ev_FL "WithoutEModel" 16 11 2 := ⟨RX11, TX11, 35, rfl, by decide, lw_11, (ev_t6 25 rfl rfl)⟩
theorem fl_WithoutEModel_19 : ev_FL "WithoutEModel" 19 11 3 := ⟨RX11, TX11, 35, rfl, by decide, lw_11, (ev_t6 26 rfl rfl)⟩
theorem fl_WithoutEModel_22 : ev_FL "WithoutEModel" 22 11 4 := ⟨RX11, TX11, 35, rfl, by decide, lw_11, (ev_t6 27 rfl rfl)⟩
theorem fl_WithoutEModel_103 : ev_FL "WithoutEModel" 103 11 5 := ⟨RX11, TX11, 35, rfl, by decide, lw_11, (ev_t6 28 rfl rfl)⟩
theorem fp_WithoutEModel_103 : ev_FP "WithoutEModel" 103 11 5 .int := ⟨RX11, TX11, 35, tyX11, rfl, by decide, lw_11, fl_WithoutEModel_103.elim (fun _ h => h.elim fun _ h => h.elim fun _ h => by obtain ⟨h1, -, -, h2⟩ := h; cases h1; exact h2), tyX11_ok, nmX11, rfl, by decide +kernel⟩
theorem fl_WithoutEModel_25 : ev_FL "WithoutEModel" 25 11 6 := ⟨RX11, TX11, 35, rfl, by decide, lw_11, (ev_t6 29 rfl rfl)⟩
theorem fp_WithoutEModel_25 : ev_FP "WithoutEModel" 25 11 6 .int := ⟨RX11, TX11, 35, tyX11, rfl, by decide, lw_11, fl_WithoutEModel_25.elim (fun _ h => h.elim fun _ h => h.elim fun _ h => by obtain ⟨h1, -, -, h2⟩ := h; cases h1; exact h2), tyX11_ok, nmX11, rfl, by decide +kernel⟩
theorem fl_WithoutEModel_29 : ev_FL "WithoutEModel" 29 11 7 := ⟨RX11, TX11, 35, rfl, by decide, lw_11, (ev_t6 30 rfl rfl)⟩
theorem fp_WithoutEModel_29 : ev_FP "WithoutEModel" 29 11 7 .int := ⟨RX11, TX11, 35, tyX11, rfl, by decide, lw_11, fl_WithoutEModel_29.elim (fun _ h => h.elim fun _ h => h.elim fun _ h => by obtain ⟨h1, -, -, h2⟩ := h; cases h1; exact h2), tyX11_ok, nmX11, rfl, by decide +kernel⟩
theorem fl_WithoutEModel_110 : ev_FL "WithoutEModel" 110 11 8 := ⟨RX11, TX11, 35, rfl, by decide, lw_11, (ev_t6 31 rfl rfl)⟩
theorem fp_WithoutEModel_110 : ev_FP "WithoutEModel" 110 11 8 .int := ⟨RX11, TX11, 35, tyX11, rfl, by decide, lw_11, fl_WithoutEModel_110.elim (fun _ h => h.elim fun _ h => h.elim fun _ h => by obtain ⟨h1, -, -, h2⟩ := h; cases h1; exact h2), tyX11_ok, nmX11, rfl, by decide +kernel⟩
theorem fl_WithoutEModel_116 : ev_FL "WithoutEModel" 116 11 9 := ⟨RX11, TX11, 35, rfl, by decide, lw_11, (ev_t6 32 rfl rfl)⟩
theorem fp_WithoutEModel_116 : ev_FP "WithoutEModel" 116 11 9 .int := ⟨RX11, TX11, 35, tyX11, rfl, by decide, lw_11, fl_WithoutEModel_116.elim (fun _ h => h.elim fun _ h => h.elim fun _ h => by obtain ⟨h1, -, -, h2⟩ := h; cases h1; exact h2), tyX11_ok, nmX11, rfl, by decide +kernel⟩
theorem fl_WithoutEModel_119 : ev_FL "WithoutEModel" 119 11 10 := ⟨RX11, TX11, 35, rfl, by decide, lw_11, (ev_t6 33 rfl rfl)⟩
theorem fp_WithoutEModel_119 : ev_FP "WithoutEModel" 119 11 10 .int := ⟨RX11, TX11, 35, tyX11, rfl, by decide, lw_11, fl_WithoutEModel_119.elim (fun _ h => h.elim fun _ h => h.elim fun _ h => by obtain ⟨h1, -, -, h2⟩ := h; cases h1; exact h2), tyX11_ok, nmX11, rfl, by decide +kernel⟩
theorem fl_WithoutEModel_125 : ev_FL "WithoutEModel" 125 11 11 := ⟨RX11, TX11, 35, rfl, by decide, lw_11, (ev_t6 34 rfl rfl)⟩
theorem fp_WithoutEModel_125 : ev_FP "WithoutEModel" 125 11 11 .int := ⟨RX11, TX11, 35, tyX11, rfl, by decide, lw_11, fl_WithoutEModel_125.elim (fun _ h => h.elim fun _ h => h.elim fun _ h => by obtain ⟨h1, -, -, h2⟩ := h; cases h1; exact h2), tyX11_ok, nmX11, rfl, by decide +kernel⟩
theorem fl_WithoutEModel_132 : ev_FL "WithoutEModel" 132 11 12 := ⟨RX11, TX11, 35, rfl, by decide, lw_11, (ev_t6 35 rfl rfl)⟩
theorem fp_WithoutEModel_132 : ev_FP "WithoutEModel" 132 11 12 .long := ⟨RX11, TX11, 35, tyX11, rfl, by decide, lw_11, fl_WithoutEModel_132.elim (fun _ h => h.elim fun _ h => h.elim fun _ h => by obtain ⟨h1, -, -, h2⟩ := h; cases h1; exact h2), tyX11_ok, nmX11, rfl, by decide +kernel⟩
theorem fl_WithoutEModel_157 : ev_FL "WithoutEModel" 157 11 13 := ⟨RX11, TX11, 35, rfl, by decide, lw_11, (ev_t6 36 rfl rfl)⟩
theorem fp_WithoutEModel_157 : ev_FP "WithoutEModel" 157 11 13 .int := ⟨RX11, TX11, 35, tyX11, rfl, by decide, lw_11, fl_WithoutEModel_157.elim (fun _ h => h.elim fun _ h => h.elim fun _ h => by obtain ⟨h1, -, -, h2⟩ := h; cases h1; exact h2), tyX11_ok, nmX11, rfl, by decide +kernel⟩
theorem fl_WithoutEModel_160 : ev_FL "WithoutEModel" 160 11 14 := ⟨RX11, TX11, 35, rfl, by decide, lw_11, (ev_t6 37 rfl rfl)⟩
theorem fp_WithoutEModel_160 : ev_FP "WithoutEModel" 160 11 14 .int := ⟨RX11, TX11, 35, tyX11, rfl, by decide, lw_11, fl_WithoutEModel_160.elim (fun _ h => h.elim fun _ h => h.elim fun _ h => by obtain ⟨h1, -, -, h2⟩ := h; cases h1; exact h2), tyX11_ok, nmX11, rfl, by decide +kernel⟩
theorem fl_WithoutEModel_171 : ev_FL "WithoutEModel" 171 11 15 := ⟨RX11, TX11, 35, rfl, by decide, lw_11, (ev_t6 38 rfl rfl)⟩
theorem fp_WithoutEModel_171 : ev_FP "WithoutEModel" 171 11 15 .int := ⟨RX11, TX11, 35, tyX11, rfl, by decide, lw_11, fl_WithoutEModel_171.elim (fun _ h => h.elim fun _ h => h.elim fun _ h => by obtain ⟨h1, -, -, h2⟩ := h; cases h1; exact h2), tyX11_ok, nmX11, rfl, by decide +kernel⟩
theorem fl_WithoutEModel_32 : ev_FL "WithoutEModel" 32 11 16 := ⟨RX11, TX11, 35, rfl, by decide, lw_11, (ev_t6 39 rfl rfl)⟩
theorem fl_WithoutEModel_174 : ev_FL "WithoutEModel" 174 11 17 := ⟨RX11, TX11, 35, rfl, by decide, lw_11, (ev_t6 40 rfl rfl)⟩
theorem fp_WithoutEModel_174 : ev_FP "WithoutEModel" 174 11 17 .int := ⟨RX11, TX11, 35, tyX11, rfl, by decide, lw_11, fl_WithoutEModel_174.elim (fun _ h => h.elim fun _ h => h.elim fun _ h => by obtain ⟨h1, -, -, h2⟩ := h; cases h1; exact h2), tyX11_ok, nmX11, rfl, by decide +kernel⟩
theorem fl_WithoutEModel_184 : ev_FL "WithoutEModel" 184 11 18 := ⟨RX11, TX11, 35, rfl, by decide, lw_11, (ev_t6 41 rfl rfl)⟩
theorem fp_WithoutEModel_184 : ev_FP "WithoutEModel" 184 11 18 .int := ⟨RX11, TX11, 35, tyX11, rfl, by decide, lw_11, fl_WithoutEModel_184.elim (fun _ h => h.elim fun _ h => h.elim fun _ h => by obtain ⟨h1, -, -, h2⟩ := h; cases h1; exact h2), tyX11_ok, nmX11, rfl, by decide +kernel⟩
theorem fl_WithoutEModel_203 : ev_FL "WithoutEModel" 203 11 19 := ⟨RX11, TX11, 35, rfl, by decide, lw_11, (ev_t6 42 rfl rfl)⟩
theorem fp_WithoutEModel_203 : ev_FP "WithoutEModel" 203 11 19 .boolean := ⟨RX11, TX11, 35, tyX11, rfl, by decide, lw_11, fl_WithoutEModel_203.elim (fun _ h => h.elim fun _ h => h.elim fun _ h => by obtain ⟨h1, -, -, h2⟩ := h; cases h1; exact h2), tyX11_ok, nmX11, rfl, by decide +kernel⟩
theorem fl_WithoutEModel_268 : ev_FL "WithoutEModel" 268 11 20 := ⟨RX11, TX11, 35, rfl, by decide, lw_11, (ev_t6 43 rfl rfl)⟩
theorem fp_WithoutEModel_268 : ev_FP "WithoutEModel" 268 11 20 .int := ⟨RX11, TX11, 35, tyX11, rfl, by decide, lw_11, fl_WithoutEModel_268.elim (fun _ h => h.elim fun _ h => h.elim fun _ h => by obtain ⟨h1, -, -, h2⟩ := h; cases h1; exact h2), tyX11_ok, nmX11, rfl, by decide +kernel⟩
theorem fl_WithoutEModel_35 : ev_FL "WithoutEModel" 35 11 21 := ⟨RX11, TX11, 35, rfl, by decide, lw_11, (ev_t6 44 rfl rfl)⟩
theorem fl_WithoutEModel_38 : ev_FL "WithoutEModel" 38 11 22 := ⟨RX11, TX11, 35, rfl, by decide, lw_11, (ev_t6 45 rfl rfl)⟩
theorem fl_WithoutEModel_42 : ev_FL "WithoutEModel" 42 11 23 := ⟨RX11, TX11, 35, rfl, by decide, lw_11, (ev_t6 46 rfl rfl)⟩
theorem fl_WithoutEModel_46 : ev_FL "WithoutEModel" 46 11 24 := ⟨RX11, TX11, 35, rfl, by decide, lw_11, (ev_t6 47 rfl rfl)⟩
theorem fl_WithoutEModel_49 : ev_FL "WithoutEModel" 49 11 25 := ⟨RX11, TX11, 35, rfl, by decide, lw_11, (ev_t6 48 rfl rfl)⟩
theorem fl_WithoutEModel_52 : ev_FL "WithoutEModel" 52 11 26 := ⟨RX11, TX11, 35, rfl, by decide, lw_11, (ev_t6 49 rfl rfl)⟩
theorem fl_WithoutEModel_55 : ev_FL "WithoutEModel" 55 11 27 := ⟨RX11, TX11, 35, rfl, by decide, lw_11, (ev_t6 50 rfl rfl)⟩
theorem fl_WithoutEModel_58 : ev_FL "WithoutEModel" 58 11 28 := ⟨RX11, TX11, 35, rfl, by decide, lw_11, (ev_t6 51 rfl rfl)⟩
theorem fl_WithoutEModel_61 : ev_FL "WithoutEModel" 61 11 29 := ⟨RX11, TX11, 35, rfl, by decide, lw_11, (ev_t6 52 rfl rfl)⟩
theorem fl_WithoutEModel_64 : ev_FL "WithoutEModel" 64 11 30 := ⟨RX11, TX11, 35, rfl, by decide, lw_11, (ev_t6 53 rfl rfl)⟩
theorem fl_WithoutEModel_67 : ev_FL "WithoutEModel" 67 11 31 := ⟨RX11, TX11, 35, rfl, by decide, lw_11, (ev_t6 54 rfl rfl)⟩
theorem fl_WithoutEModel_457 : ev_FL "WithoutEModel" 457 11 32 := ⟨RX11, TX11, 35, rfl, by decide, lw_11, (ev_t6 55 rfl rfl)⟩
theorem fp_WithoutEModel_457 : ev_FP "WithoutEModel" 457 11 32 .int := ⟨RX11, TX11, 35, tyX11, rfl, by decide, lw_11, fl_WithoutEModel_457.elim (fun _ h => h.elim fun _ h => h.elim fun _ h => by obtain ⟨h1, -, -, h2⟩ := h; cases h1; exact h2), tyX11_ok, nmX11, rfl, by decide +kernel⟩
theorem fl_WithoutEModel_70 : ev_FL "WithoutEModel" 70 11 33 := ⟨RX11, TX11, 35, rfl, by decide, lw_11, (ev_t6 56 rfl rfl)⟩
theorem fl_WithoutEModel_73 : ev_FL "WithoutEModel" 73 11 34 := ⟨RX11, TX11, 35, rfl, by decide, lw_11, (ev_t6 57 rfl rfl)⟩
theorem cw_java_lang_Integer_265 : Cond.constant "java/lang/Integer" 265 (1431655765) ∈ ev_T := (ev_t4 54 rfl rfl)
theorem cw_java_lang_Integer_266 : Cond.constant "java/lang/Integer" 266 (858993459) ∈ ev_T := (ev_t4 55 rfl rfl)
theorem cw_java_lang_Integer_267 : Cond.constant "java/lang/Integer" 267 (252645135) ∈ ev_T := (ev_t4 56 rfl rfl)
theorem cw_WithoutE_Laws_93 : Cond.constantLong "WithoutE$Laws" 93 (1000000) ∈ ev_T := (ev_t4 109 rfl rfl)
theorem cw_WithoutE_Laws_95 : Cond.constant "WithoutE$Laws" 95 (1000000) ∈ ev_T := (ev_t4 110 rfl rfl)
theorem cw_WithoutE_Laws_96 : Cond.constantLong "WithoutE$Laws" 96 (-1000000) ∈ ev_T := (ev_t4 111 rfl rfl)
theorem cw_WithoutE_Laws_98 : Cond.constant "WithoutE$Laws" 98 (-1000000) ∈ ev_T := (ev_t4 112 rfl rfl)
theorem cw_WithoutE_Lowest_9 : Cond.constant "WithoutE$Lowest" 9 (1000000) ∈ ev_T := (ev_t4 136 rfl rfl)
theorem cw_WithoutE_Speech_104 : Cond.constant "WithoutE$Speech" 104 (1000000) ∈ ev_T := (ev_t4 141 rfl rfl)
theorem cw_WithoutE_334 : Cond.constant "WithoutE" 334 (1000000) ∈ ev_T := (ev_t5 27 rfl rfl)
theorem cw_WithoutE_379 : Cond.constantLong "WithoutE" 379 (-1) ∈ ev_T := (ev_t5 90 rfl rfl)
theorem cw_WithoutE_402 : Cond.constantLong "WithoutE" 402 (10) ∈ ev_T := (ev_t5 106 rfl rfl)
theorem cw_WithoutE_395 : Cond.constantLong "WithoutE" 395 (100) ∈ ev_T := (ev_t5 117 rfl rfl)
theorem cw_WithoutE_414 : Cond.constant "WithoutE" 414 (67108863) ∈ ev_T := (ev_t5 138 rfl rfl)
theorem cw_WithoutEModel_128 : Cond.constant "WithoutEModel" 128 (99999) ∈ ev_T := (ev_t6 164 rfl rfl)
theorem cw_WithoutEModel_136 : Cond.constantLong "WithoutEModel" 136 (1152921504606846976) ∈ ev_T := (ev_t6 168 rfl rfl)
theorem cw_WithoutEModel_288 : Cond.constantLong "WithoutEModel" 288 (26) ∈ ev_T := (ev_t7 186 rfl rfl)
theorem cw_WithoutEModel_280 : Cond.constantLong "WithoutEModel" 280 (1000000) ∈ ev_T := (ev_t7 193 rfl rfl)
theorem cw_WithoutEModel_282 : Cond.constantLong "WithoutEModel" 282 (-1000000) ∈ ev_T := (ev_t7 194 rfl rfl)
theorem cw_WithoutEModel_352 : Cond.constant "WithoutEModel" 352 (1000000) ∈ ev_T := (ev_t7 204 rfl rfl)
theorem cw_WithoutEModel_387 : Cond.constantLong "WithoutEModel" 387 (409) ∈ ev_T := (ev_t8 25 rfl rfl)
theorem cw_WithoutEModel_389 : Cond.constantLong "WithoutEModel" 389 (283) ∈ ev_T := (ev_t8 26 rfl rfl)
theorem cw_WithoutEModel_391 : Cond.constantLong "WithoutEModel" 391 (30517) ∈ ev_T := (ev_t8 27 rfl rfl)
theorem cw_WithoutEModel_444 : Cond.constant "WithoutEModel" 444 (40000) ∈ ev_T := (ev_t8 80 rfl rfl)
theorem cw_WithoutEModel_468 : Cond.constantLong "WithoutEModel" 468 (-1) ∈ ev_T := (ev_t8 153 rfl rfl)
theorem cw_WithoutEModel_463 : Cond.constantLong "WithoutEModel" 463 (10) ∈ ev_T := (ev_t8 157 rfl rfl)
theorem cw_WithoutEModel_481 : Cond.constantLong "WithoutEModel" 481 (100) ∈ ev_T := (ev_t8 169 rfl rfl)
theorem cw_WithoutEModel_483 : Cond.constant "WithoutEModel" 483 (67108863) ∈ ev_T := (ev_t8 186 rfl rfl)
theorem cpw {o : String} {x : Nat} (h : Cond.methodLink o x arraycopyName ∈ ev_T) : Cond.methodLink o x arraycopyName ∈ ev_T ∧ Cond.native arraycopyName ∈ ev_T ∧ Cond.static arraycopyName ∈ ev_T ∧ Cond.initialized "java/lang/System" ∈ ev_T := ⟨h, (ev_t4 18 rfl rfl), (ev_t4 17 rfl rfl), iw_java_lang_System⟩
theorem cp_WithoutE_Typewriter_28 : Cond.methodLink "WithoutE$Typewriter" 28 arraycopyName ∈ ev_T := (ev_t4 16 rfl rfl)
theorem cp_WithoutE_Notes_45 : Cond.methodLink "WithoutE$Notes" 45 arraycopyName ∈ ev_T := (ev_t6 1 rfl rfl)
