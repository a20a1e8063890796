/-! WHAT THE LINKS REST ON: each method, each link, and the word of the tables that says so; written by wip/p39/gen_links.py. -/
/-- is the first list among the second, in its order -/
def zsub : List Cond → List Cond → Bool
  | [], [] => true
  | _ :: _, [] => false
  | [], _ :: _ => true
  | a :: l, b :: r => if a = b then zsub l r else zsub (a :: l) r
theorem zsub_in : ∀ (r l : List Cond), zsub l r = true → ∀ w ∈ l, w ∈ r
  | [], l, h, w, hw => by
    cases l with
    | nil => cases hw
    | cons a l => cases h
  | b :: r, [], h, w, hw => by cases hw
  | b :: r, a :: l, h, w, hw => by
    rw [zsub] at h
    split at h
    · rename_i e
      rcases List.mem_cons.mp hw with q | q
      · rw [q, e]; exact List.mem_cons_self
      · exact List.mem_cons_of_mem _ (zsub_in r l h w q)
    · exact List.mem_cons_of_mem _ (zsub_in r (a :: l) h w hw)
def zOwl : List String := [RX11, RX0, RX1, RX2, RX3, RX4, RX5, RX6, RX7, RX8, RX9, RX10, RL, RJxe99ae, RJxf58ca, RJ9, RJ7]
def zOw (a : Nat) : String := (zOwl[a]?).getD RL
/-- a method: its name, bytes, words of locals, answer, class, frames, words that it needs above it -/
abbrev zMt : Type := MethodName × ByteArray × Nat × Option FieldType × Nat × Nat × Nat
def zMT0 : List zMt := [(yX0_init, cX0_init, 5, none, 1, 6, 140), (yX0_readBook, cX0_readBook, 3, (some .boolean), 1, 5, 108), (yX0_lookAtNext, cX0_lookAtNext, 2, none, 1, 3, 67), (yX0_takeInScheme, cX0_takeInScheme, 1, (some .boolean), 1, 4, 85), (yX0_takeInCross, cX0_takeInCross, 1, (some .boolean), 1, 4, 88), (yX0_refuse, cX0_refuse, 3, (some .boolean), 1, 0, 0), (yX0_goOn, cX0_goOn, 2, (some .boolean), 1, 1, 21), (yX0_nameStands, cX0_nameStands, 1, (some .boolean), 1, 1, 22), (yX0_numberStands, cX0_numberStands, 3, (some .boolean), 1, 2, 43), (yX0_refuseOneMore, cX0_refuseOneMore, 1, (some .boolean), 1, 1, 22), (yX0_takeSign, cX0_takeSign, 3, (some .boolean), 1, 2, 42), (yX0_takeStatement, cX0_takeStatement, 2, (some .boolean), 1, 2, 42), (yX0_takeSchemeName, cX0_takeSchemeName, 2, (some .boolean), 1, 2, 44), (yX0_takeKind, cX0_takeKind, 1, (some .boolean), 1, 2, 42), (yX0_takeFieldName, cX0_takeFieldName, 1, (some .boolean), 1, 2, 42), (yX0_takeTimesNumber, cX0_takeTimesNumber, 1, (some .boolean), 1, 3, 65)]
def zMT1 : List zMt := [(yX0_takeFirstScheme, cX0_takeFirstScheme, 1, (some .boolean), 1, 2, 44), (yX0_takeSecondScheme, cX0_takeSecondScheme, 5, (some .boolean), 1, 2, 45), (yX0_takeTarget, cX0_takeTarget, 1, (some .boolean), 1, 2, 44), (yX0_takeNumberSource, cX0_takeNumberSource, 1, (some .boolean), 1, 3, 67), (yX0_takeFieldSource, cX0_takeFieldSource, 2, (some .boolean), 1, 3, 67), (yX0_beginRule, cX0_beginRule, 6, (some .boolean), 1, 2, 42), (yX0_takeSort, cX0_takeSort, 1, (some .boolean), 1, 2, 42), (yX0_takeFactor, cX0_takeFactor, 1, (some .boolean), 1, 3, 65), (yX0_takeSecondField, cX0_takeSecondField, 2, (some .boolean), 1, 2, 42), (yX0_takeRuleSign, cX0_takeRuleSign, 1, (some .boolean), 1, 3, 64), (yX1_init, cX1_init, 1, none, 2, 1, 40), (yX2_isNumber, cX2_isNumber, 1, (some .boolean), 3, 0, 0), (yX2_isReal, cX2_isReal, 1, (some .boolean), 3, 0, 0), (yX2_goesInto, cX2_goesInto, 2, (some .boolean), 3, 0, 0), (yX2_told, cX2_told, 3, (some .long), 3, 2, 53), (yX2_toldWord, cX2_toldWord, 7, (some .long), 3, 0, 0)]
def zMT2 : List zMt := [(yX2_changed, cX2_changed, 4, (some .long), 3, 2, 53), (yX2_wholeOfWord, cX2_wholeOfWord, 9, (some .long), 3, 0, 0), (yX2_digitsWord, cX2_digitsWord, 9, (some .long), 3, 0, 0), (yX2_ofWhole, cX2_ofWhole, 3, (some .long), 3, 1, 31), (yX2_ofReal, cX2_ofReal, 3, (some .long), 3, 1, 31), (yX3_init, cX3_init, 2, none, 4, 2, 60), (yX3_begin, cX3_begin, 3, none, 4, 0, 0), (yX3_ruleAt, cX3_ruleAt, 2, (some (.object "RecordBridge$Rule")), 4, 0, 0), (yX3_addRule, cX3_addRule, 1, (some (.object "RecordBridge$Rule")), 4, 1, 21), (yX3_fieldsFilled, cX3_fieldsFilled, 4, (some .int), 4, 1, 21), (yX4_init, cX4_init, 2, none, 5, 3, 81), (yX4_clear, cX4_clear, 1, none, 5, 0, 0), (yX4_shape, cX4_shape, 2, (some (.object "RecordBridge$Shape")), 5, 0, 0), (yX4_passage, cX4_passage, 3, (some (.object "RecordBridge$Passage")), 5, 0, 0), (yX4_addShape, cX4_addShape, 3, (some (.object "RecordBridge$Shape")), 5, 1, 21), (yX4_addPassage, cX4_addPassage, 4, (some (.object "RecordBridge$Passage")), 5, 1, 22)]
def zMT3 : List zMt := [(yX4_shapeOfName, cX4_shapeOfName, 4, (some .int), 5, 1, 21), (yX5_toBits, cX5_toBits, 12, (some .long), 6, 0, 0), (yX5_fromBits, cX5_fromBits, 14, (some .double), 6, 0, 0), (yX6_init, cX6_init, 1, none, 7, 2, 44), (yX6_clear, cX6_clear, 1, none, 7, 1, 24), (yX6_keepPast, cX6_keepPast, 1, none, 7, 1, 40), (yX6_goBack, cX6_goBack, 1, (some .boolean), 7, 1, 40), (yX6_countOf, cX6_countOf, 2, (some .int), 7, 0, 0), (yX6_recordStart, cX6_recordStart, 2, (some .int), 7, 0, 0), (yX6_isRecordPlace, cX6_isRecordPlace, 2, (some .boolean), 7, 0, 0), (yX6_indexOf, cX6_indexOf, 5, (some .int), 7, 1, 21), (yX6_rawAt, cX6_rawAt, 6, (some .long), 7, 2, 45), (yX6_isEmptyAt, cX6_isEmptyAt, 5, (some .boolean), 7, 3, 70), (yX6_valueAt, cX6_valueAt, 7, (some .long), 7, 3, 70), (yX6_setAt, cX6_setAt, 8, none, 7, 2, 45), (yX6_thingKind, cX6_thingKind, 2, (some .int), 7, 0, 0)]
def zMT4 : List zMt := [(yX6_thingValue, cX6_thingValue, 2, (some .long), 7, 0, 0), (yX6_setThing, cX6_setThing, 5, none, 7, 0, 0), (yX7_init, cX7_init, 1, none, 8, 1, 40), (yX7_set, cX7_set, 5, none, 8, 0, 0), (yX7_settle, cX7_settle, 5, none, 8, 1, 21), (yX7_fieldsRead, cX7_fieldsRead, 1, (some .int), 8, 0, 0), (yX8_init, cX8_init, 1, none, 9, 1, 40), (yX8_begin, cX8_begin, 2, none, 9, 0, 0), (yX8_addField, cX8_addField, 3, none, 9, 0, 0), (yX8_repeatLast, cX8_repeatLast, 2, none, 9, 1, 21), (yX8_hasField, cX8_hasField, 2, (some .boolean), 9, 0, 0), (yX8_kindOf, cX8_kindOf, 2, (some .int), 9, 1, 21), (yX8_hasWords, cX8_hasWords, 2, (some .boolean), 9, 2, 42), (yX8_fieldOfName, cX8_fieldOfName, 3, (some .int), 9, 0, 0), (yX9_init, cX9_init, 1, none, 10, 1, 40), (yX9_takes, cX9_takes, 2, (some .boolean), 10, 0, 0)]
def zMT5 : List zMt := [(yX9_addNumber, cX9_addNumber, 3, none, 10, 0, 0), (yX9_byteAt, cX9_byteAt, 2, (some .int), 10, 0, 0), (yX9_isLetter, cX9_isLetter, 3, (some .boolean), 10, 1, 21), (yX9_isDigit, cX9_isDigit, 3, (some .boolean), 10, 1, 21), (yX9_isBlank, cX9_isBlank, 3, (some .boolean), 10, 1, 21), (yX9_lettersFrom, cX9_lettersFrom, 3, (some .int), 10, 2, 43), (yX9_digitsFrom, cX9_digitsFrom, 3, (some .int), 10, 2, 43), (yX9_numberFrom, cX9_numberFrom, 5, (some .int), 10, 2, 43), (yX9_nameFrom, cX9_nameFrom, 4, (some .int), 10, 2, 43), (yX9_withLetter, cX9_withLetter, 3, (some .int), 10, 0, 0), (yX10_init, cX10_init, 1, none, 11, 1, 40), (yX11_init, cX11_init, 1, none, 0, 7, 164), (yX11_feed, cX11_feed, 6, (some .int), 0, 1, 22), (yX11_end, cX11_end, 2, (some .boolean), 0, 0, 0), (yX11_book, cX11_book, 3, (some .int), 0, 6, 130), (yX11_has, cX11_has, 2, (some .int), 0, 2, 44)]
def zMT6 : List zMt := [(yX11_hasOfScheme, cX11_hasOfScheme, 4, (some .int), 0, 1, 21), (yX11_field, cX11_field, 5, (some .int), 0, 1, 21), (yX11_widens, cX11_widens, 3, (some .int), 0, 1, 21), (yX11_length, cX11_length, 4, (some .int), 0, 2, 45), (yX11_read, cX11_read, 7, (some .long), 0, 4, 96), (yX11_get, cX11_get, 8, (some .long), 0, 4, 96), (yX11_write, cX11_write, 9, (some .boolean), 0, 3, 76), (yX11_put, cX11_put, 9, (some .boolean), 0, 3, 76), (yX11_why, cX11_why, 1, (some .int), 0, 0, 0), (yX11_rowSort, cX11_rowSort, 4, (some .int), 0, 1, 21), (yX11_placesOf, cX11_placesOf, 5, (some .int), 0, 1, 21), (yX11_kindRefusal, cX11_kindRefusal, 6, (some .int), 0, 2, 45), (yX11_thingRefusal, cX11_thingRefusal, 6, (some .int), 0, 2, 45), (yX11_takesThing, cX11_takesThing, 2, (some .boolean), 0, 1, 21), (yX11_undo, cX11_undo, 1, (some .boolean), 0, 2, 60), (yJxe99ae_isNaN_b9ae7, cJxe99ae_isNaN_b9ae7, 2, (some .boolean), 13, 0, 0)]
def zMT7 : List zMt := [(yJxe99ae_doubleToLongBits_ccdee, cJxe99ae_doubleToLongBits_ccdee, 2, (some .long), 13, 1, 40), (yJxf58ca_isNaN_12338, cJxf58ca_isNaN_12338, 1, (some .boolean), 14, 0, 0), (yJxf58ca_floatToIntBits_5c35a, cJxf58ca_floatToIntBits_5c35a, 1, (some .int), 14, 1, 40), (yJ9_floorMod_7cf53, cJ9_floorMod_7cf53, 3, (some .int), 15, 0, 0), (yJ9_max_7cf53, cJ9_max_7cf53, 2, (some .int), 15, 0, 0), (yJ9_min_7cf53, cJ9_min_7cf53, 2, (some .int), 15, 0, 0), (yJ7_fill_d0a16, cJ7_fill_d0a16, 5, none, 16, 0, 0), (yL_pick, cL_pick, 2, (some .int), 12, 0, 0), (yL_four, cL_four, 4, (some .int), 12, 6, 140), (yL_say, cL_say, 4, (some .boolean), 12, 7, 163), (yL_sign, cL_sign, 3, (some .boolean), 12, 2, 47), (yL_number, cL_number, 3, (some .boolean), 12, 3, 69), (yL_kind, cL_kind, 3, (some .boolean), 12, 8, 186), (yL_scheme, cL_scheme, 7, (some .boolean), 12, 9, 208), (yL_kindOf, cL_kindOf, 2, (some .int), 12, 0, 0), (yL_isNumber, cL_isNumber, 1, (some .boolean), 12, 0, 0)]
def zMT8 : List zMt := [(yL_field, cL_field, 3, (some .boolean), 12, 8, 186), (yL_cross, cL_cross, 13, (some .boolean), 12, 9, 208), (yL_book, cL_book, 6, (some .boolean), 12, 10, 240), (yL_widens, cL_widens, 2, (some .boolean), 12, 1, 20), (yL_cast, cL_cast, 6, (some .long), 12, 2, 61), (yL_told, cL_told, 8, (some .long), 12, 3, 86), (yL_as, cL_as, 4, (some .long), 12, 3, 86), (yL_reason, cL_reason, 8, (some .int), 12, 3, 65), (yL_goes, cL_goes, 19, (some .boolean), 12, 5, 123), (yL_law, cL_law, 12, some .boolean, 12, 11, 265)]
def zMT : List (List zMt) := [zMT0, zMT1, zMT2, zMT3, zMT4, zMT5, zMT6, zMT7, zMT8]
def zNT : List zMt := [(⟨"java/lang/System", "arraycopy", "(Ljava/lang/Object;ILjava/lang/Object;II)V"⟩, ⟨#[]⟩, 0, none, 0, 0, 0), (⟨"java/lang/Double", "doubleToRawLongBits", "(D)J"⟩, ⟨#[]⟩, 0, none, 0, 0, 0), (⟨"java/lang/Double", "longBitsToDouble", "(J)D"⟩, ⟨#[]⟩, 0, none, 0, 0, 0), (⟨"java/lang/Float", "floatToRawIntBits", "(F)I"⟩, ⟨#[]⟩, 0, none, 0, 0, 0), (⟨"java/lang/Float", "intBitsToFloat", "(I)F"⟩, ⟨#[]⟩, 0, none, 0, 0, 0), (⟨"java/lang/String", "length", "()I"⟩, ⟨#[]⟩, 0, none, 0, 0, 0), (⟨"java/lang/String", "charAt", "(I)C"⟩, ⟨#[]⟩, 0, none, 0, 0, 0), (⟨"java/lang/Object", "<init>", "()V"⟩, ⟨#[]⟩, 0, none, 0, 0, 0)]
def zMI (n : Nat) : zMt := if 900 ≤ n then (zNT[n - 900]?).getD (yL_law, cL_law, 12, none, 0, 0, 0) else (((zMT[n / 16]?).getD [])[n % 16]?).getD (yL_law, cL_law, 12, none, 0, 0, 0)
def zoC : List Nat := [91, 0, 78, 42, 70, 37, 66, 89, 51, 52, 118, 65, 26, 90, 95, 55, 96, 44, 97, 74, 98, 29, 99, 105, 106, 100, 107, 61, 59, 58, 57, 56, 76, 75, 32, 28, 50, 36, 49, 34, 35, 33, 101, 63, 64, 60, 104, 110, 54, 115, 119, 130, 125, 121, 117, 120, 92, 79, 80, 93, 122, 124, 123, 129, 128, 126, 127, 94, 1, 43, 2, 84, 81, 85, 82, 86, 83, 87, 88, 3, 11, 5, 6, 116, 12, 7, 48, 46, 71, 13, 9, 14, 77, 72, 10, 15, 8, 73, 4, 16, 17, 47, 45, 38, 18, 41, 39, 19, 21, 40, 67, 20, 22, 27, 25, 68, 69, 23, 24, 131, 136, 135, 103, 108, 109, 53, 30, 31, 62, 102, 133, 114, 113, 112, 111, 132, 134]
def zoI : List Nat := [91, 907, 0, 78, 42, 70, 37, 66, 905, 906, 51, 52, 65, 26, 90, 95, 55, 96, 44, 97, 74, 98, 99, 105, 106, 100, 107, 61, 59, 76, 75, 101, 63, 64, 60, 104, 110, 54, 92, 79, 80, 93, 94, 1, 43, 2, 84, 81, 85, 82, 86, 83, 87, 88, 3, 11, 5, 6, 12, 7, 48, 46, 71, 13, 9, 14, 77, 72, 10, 15, 8, 73, 4, 16, 17, 47, 45, 38, 18, 41, 39, 19, 21, 40, 67, 20, 22, 25, 68, 69, 23, 24, 103, 108, 53, 62, 102]
def zoS : List Nat := [96, 105, 106, 107, 59, 2, 3, 11, 5, 6, 12, 7, 13, 9, 14, 10, 15, 8, 4, 16, 17, 18, 19, 21, 20, 22, 25, 23, 24, 108, 905, 906, 52, 65, 95, 55, 44, 97, 74, 98, 99, 100, 61, 76, 75, 101, 63, 64, 60, 104, 110, 54, 92, 79, 80, 93, 94, 1, 43, 84, 81, 85, 82, 86, 83, 87, 88, 48, 46, 71, 77, 72, 73, 47, 45, 38, 41, 39, 40, 67, 68, 69, 103, 53, 62, 102]
def zoT : List Nat := [89, 118, 29, 58, 57, 56, 32, 28, 50, 36, 49, 34, 35, 33, 115, 900, 119, 130, 125, 121, 117, 120, 122, 124, 123, 129, 128, 126, 127, 116, 27, 131, 136, 135, 109, 30, 31, 133, 114, 113, 903, 112, 111, 901, 132, 904, 902, 134]
def zoN : List Nat := [900, 903, 901, 904, 902]
def zLF : List (Nat × Nat × Nat) := [(10, 9, 1794), (10, 13, 1796), (1, 91, 1796), (0, 80, 1796), (9, 11, 1538), (9, 15, 1542), (8, 52, 1542), (0, 149, 1542), (9, 18, 1546), (8, 32, 1546), (0, 152, 1546), (7, 94, 1546), (9, 21, 1550), (8, 69, 1550), (7, 98, 1550), (9, 24, 1552), (5, 47, 1552), (9, 28, 1556), (8, 43, 1556), (0, 121, 1556), (1, 216, 1556), (9, 31, 1560), (8, 7, 1280), (4, 34, 1280), (8, 13, 1284), (1, 279, 1284), (8, 16, 1288), (1, 274, 1288), (8, 19, 1292), (1, 282, 1292), (8, 40, 1296), (8, 36, 1300), (8, 66, 1304), (8, 62, 1311), (4, 11, 514), (4, 16, 516), (4, 20, 520), (4, 23, 524), (1, 250, 524), (5, 13, 770), (5, 19, 774), (5, 25, 776), (1, 94, 776), (0, 95, 776), (5, 29, 780), (0, 98, 780), (1, 203, 780), (1, 11, 2), (1, 18, 6), (0, 16, 6), (1, 25, 10), (0, 87, 10), (1, 79, 12), (1, 82, 16), (1, 116, 20), (1, 140, 24), (1, 143, 28), (1, 122, 32), (1, 134, 36), (1, 32, 42), (1, 224, 44), (1, 39, 50), (1, 241, 52), (1, 43, 58), (1, 46, 62), (1, 52, 66), (1, 253, 68), (1, 85, 72), (1, 56, 76), (7, 13, 1026), (7, 19, 1030), (7, 41, 1032), (7, 45, 1036), (0, 111, 1036), (2, 11, 258), (11, 11, 2050), (11, 15, 2054), (11, 20, 2058), (11, 24, 2062), (0, 20, 2306), (0, 10, 2310), (0, 24, 2314), (0, 31, 2318), (0, 38, 2322), (0, 42, 2326), (0, 46, 2330), (0, 49, 2334), (0, 53, 2338), (0, 56, 2342), (0, 62, 2346), (0, 91, 2351), (0, 206, 2352), (0, 66, 2356)]
def zLM : List (Nat × Nat × Nat) := [(12, 195, 91), (0, 1, 907), (0, 9, 0), (1, 3, 907), (10, 1, 907), (1, 24, 42), (5, 3, 907), (9, 3, 907), (5, 24, 37), (4, 1, 907), (8, 1, 907), (1, 38, 37), (1, 62, 905), (1, 68, 906), (1, 72, 89), (0, 23, 51), (7, 7, 907), (7, 22, 52), (7, 25, 118), (7, 35, 65), (2, 3, 907), (11, 3, 907), (0, 61, 42), (12, 119, 95), (0, 107, 55), (0, 114, 96), (0, 117, 44), (12, 156, 97), (0, 133, 74), (12, 199, 98), (0, 199, 29), (12, 201, 99), (0, 203, 105), (0, 209, 106), (12, 192, 100), (0, 213, 107), (0, 219, 61), (7, 108, 59), (7, 101, 58), (7, 88, 74), (7, 67, 57), (7, 71, 56), (7, 105, 76), (9, 38, 75), (9, 34, 74), (0, 223, 32), (3, 34, 28), (3, 38, 50), (3, 42, 36), (3, 14, 49), (3, 50, 34), (3, 26, 35), (3, 45, 33), (12, 186, 101), (0, 227, 63), (0, 230, 64), (0, 234, 60), (12, 176, 104), (12, 217, 110), (0, 349, 54), (7, 60, 115), (7, 48, 900), (12, 104, 119), (12, 196, 130), (12, 108, 125), (12, 45, 121), (12, 7, 905), (12, 17, 117), (12, 23, 120), (12, 13, 906), (12, 29, 92), (0, 70, 79), (0, 76, 80), (12, 35, 93), (12, 39, 122), (12, 71, 124), (12, 78, 123), (12, 112, 129), (12, 87, 128), (12, 92, 126), (12, 95, 127), (12, 116, 94), (0, 83, 1), (1, 76, 43), (1, 88, 2), (1, 108, 84), (10, 17, 81), (1, 112, 85), (10, 21, 82), (1, 119, 86), (10, 25, 83), (1, 125, 117), (1, 131, 87), (1, 137, 88), (10, 28, 89), (1, 97, 3), (1, 146, 11), (1, 104, 5), (1, 158, 6), (1, 194, 116), (1, 149, 12), (1, 206, 7), (1, 209, 48), (5, 32, 44), (1, 212, 46), (5, 36, 71), (1, 152, 13), (1, 219, 9), (1, 155, 14), (1, 227, 77), (1, 230, 72), (1, 161, 10), (1, 200, 81), (1, 164, 15), (1, 234, 8), (1, 197, 82), (1, 237, 73), (1, 101, 4), (1, 167, 16), (1, 170, 17), (1, 244, 44), (1, 246, 47), (5, 40, 45), (5, 44, 38), (1, 173, 18), (1, 256, 41), (4, 26, 39), (1, 176, 19), (1, 259, 75), (1, 262, 21), (1, 266, 40), (1, 270, 67), (1, 179, 20), (1, 182, 22), (1, 276, 27), (1, 185, 25), (1, 285, 68), (8, 22, 69), (8, 26, 74), (8, 46, 117), (8, 55, 28), (8, 58, 29), (1, 188, 23), (1, 191, 24), (0, 88, 52), (12, 159, 131), (12, 213, 136), (12, 165, 135), (12, 169, 103), (0, 251, 108), (0, 271, 109), (0, 240, 53), (7, 54, 117), (0, 243, 30), (3, 22, 31), (0, 254, 65), (0, 247, 62), (12, 173, 102), (12, 179, 133), (12, 135, 114), (14, 59, 113), (14, 74, 903), (12, 139, 112), (13, 122, 111), (13, 134, 901), (12, 152, 132), (12, 123, 904), (12, 129, 902), (12, 183, 134)]
def zLN : List (Nat × Nat × Nat) := [(1, 17, 78), (5, 23, 70), (4, 15, 66), (1, 31, 70), (1, 51, 66), (0, 30, 26), (0, 37, 90)]
def zLC : List (Nat × Nat × Nat) := [(12, 30, 9), (0, 7, 0), (1, 15, 7), (1, 22, 3), (5, 11, 6), (5, 17, 2), (4, 9, 5), (1, 29, 6), (1, 36, 2), (1, 49, 5), (0, 21, 4), (0, 28, 1), (0, 35, 8), (0, 59, 3)]
def zLA : List (Nat × Nat × Nat) := [(5, 11, 17), (5, 17, 15), (4, 9, 16), (7, 17, 18)]
def zLK : List (Nat × Nat × Nat) := [(7, 33, 9), (7, 39, 10), (0, 217, 12), (7, 112, 11), (6, 11, 6), (6, 13, 7), (6, 15, 8), (3, 48, 5), (3, 32, 4), (3, 30, 3), (0, 238, 5), (12, 163, 38), (3, 13, 1), (3, 20, 2), (0, 258, 11), (12, 143, 1), (14, 77, 14), (12, 144, 2), (13, 137, 13), (12, 146, 3), (12, 148, 36), (12, 150, 37), (12, 190, 12), (12, 203, 39), (12, 205, 9), (12, 207, 40), (12, 209, 10), (12, 211, 5)]
/-- the pools' strings: owner, entry, constant -/
def zLS : List (Nat × Nat × Nat) := [(1, 60, 0), (12, 43, 15), (12, 49, 16), (12, 51, 17), (12, 53, 18), (12, 55, 19), (12, 57, 20), (12, 59, 21), (12, 61, 22), (12, 63, 23), (12, 65, 24), (12, 67, 25), (12, 69, 26), (12, 74, 27), (12, 76, 28), (12, 81, 29), (12, 83, 30), (12, 85, 31), (12, 90, 32), (12, 98, 33), (12, 100, 34), (12, 102, 35)]
/-- a place of a class, by its number: declaring class, name, descriptor, final -/
def zFI (x : Nat) : String × String × String × Bool := match vwCl[x / 256]? with
  | some q => q.2.1 (x / 4 % 64)
  | none => ("", "", "", false)
def zCN (t : Nat) : String := if t = 15 then RX3 else if t = 16 then RX7 else if t = 17 then RX8 else if t = 18 then "[[J" else match vwCl[t]? with
  | some q => q.1
  | none => ""
def zwF (q : Nat × Nat × Nat) : Cond := .fieldLink (zOw q.1) q.2.1 (zFI q.2.2).1 (zFI q.2.2).2.1 (zFI q.2.2).2.2.1
def zwM (q : Nat × Nat × Nat) : Cond := .methodLink (zOw q.1) q.2.1 (zMI q.2.2).1
def zwN (q : Nat × Nat × Nat) : Cond := .methodLinkNest (zOw q.1) q.2.1 (zMI q.2.2).1 RX11
def zwC (q : Nat × Nat × Nat) : Cond := .classLink (zOw q.1) q.2.1 (zCN q.2.2)
def zwK (q : Nat × Nat × Nat) : Cond := match (zCT[q.2.2]?).getD .null with
  | .int v => .constant (zOw q.1) q.2.1 v
  | .long v => .constantLong (zOw q.1) q.2.1 v
  | .float v => .constantFloat (zOw q.1) q.2.1 v
  | .double v => .constantDouble (zOw q.1) q.2.1 v
  | _ => .tt
def zwc (n : Nat) : Cond := .code (zMI n).1 (zMI n).2.1 (zMI n).2.2.1 (zMI n).2.2.2.1
theorem zF_all : zsub (zLF.map zwF) lw_tbl = true := by decide +kernel
theorem zM_all : zsub (zLM.map zwM) lw_tbl = true := by decide +kernel
theorem zN_all : zsub (zLN.map zwN) lw_tbl = true := by decide +kernel
theorem zC_all : zsub (zLC.map zwC) lw_tbl = true := by decide +kernel
theorem zA_all : zsub (zLA.map zwC) lw_tbl = true := by decide +kernel
theorem zK_all : zsub (zLK.map zwK) lw_tbl = true := by decide +kernel
theorem zI_all : zsub (zoI.map (fun n => Cond.instanceMethod (zMI n).1)) lw_tbl = true := by decide +kernel
theorem zS_all : zsub (zoS.map (fun n => Cond.selects (zMI n).1.cls (zMI n).1 (zMI n).1)) lw_tbl = true := by decide +kernel
theorem zT_all : zsub (zoT.map (fun n => Cond.static (zMI n).1)) lw_tbl = true := by decide +kernel
theorem zNa_all : zsub (zoN.map (fun n => Cond.native (zMI n).1)) lw_tbl = true := by decide +kernel
set_option maxRecDepth 100000 in
theorem zc_1 : ∀ n ∈ [91, 0, 78, 42, 70, 37, 66, 89], zwc n ∈ tables_1_1 := by
  have e : tables_1_1.filter k2_isCode = [zwc 91, Cond.code ⟨"java/lang/Object", "<init>", "()V"⟩ object_method_1_code 1 (Option.none : Option FieldType), zwc 0, zwc 78, zwc 42, zwc 70, zwc 37, zwc 66, Cond.code ⟨"java/lang/String", "length", "()I"⟩ prog_19_method_54_code 1 (Option.some FieldType.int), Cond.code ⟨"java/lang/String", "coder", "()B"⟩ prog_19_method_152_code 1 (Option.some FieldType.byte), Cond.code ⟨"java/lang/String", "charAt", "(I)C"⟩ prog_19_method_56_code 2 (Option.some FieldType.char), Cond.code ⟨"java/lang/String", "isLatin1", "()Z"⟩ prog_19_method_154_code 1 (Option.some FieldType.boolean), Cond.code ⟨"java/lang/StringLatin1", "charAt", "([BI)C"⟩ prog_20_method_2_code 2 (Option.some FieldType.char), Cond.code ⟨"java/lang/String", "checkIndex", "(II)V"⟩ prog_19_method_155_code 2 (Option.none : Option FieldType), Cond.code ⟨"jdk/internal/util/Preconditions", "checkIndex", "(IILjava/util/function/BiFunction;)I"⟩ prog_24_method_11_code 3 (Option.some FieldType.int), Cond.code ⟨"java/lang/StringUTF16", "charAt", "([BI)C"⟩ prog_21_method_83_code 2 (Option.some FieldType.char), Cond.code ⟨"java/lang/StringUTF16", "checkIndex", "(I[B)V"⟩ prog_21_method_91_code 2 (Option.none : Option FieldType), Cond.code ⟨"java/lang/StringUTF16", "length", "([B)I"⟩ prog_21_method_6_code 1 (Option.some FieldType.int), Cond.code ⟨"java/lang/StringUTF16", "getChar", "([BI)C"⟩ prog_21_method_5_code 2 (Option.some FieldType.char), zwc 89] := rfl
  intro n hn
  have h : zwc n ∈ tables_1_1.filter k2_isCode := by
    rw [e]
    simp only [List.mem_cons, List.not_mem_nil, or_false] at hn
    rcases hn with rfl | rfl | rfl | rfl | rfl | rfl | rfl | rfl <;> simp only [List.mem_cons, true_or, or_true]
  exact (List.mem_filter.mp h).1
set_option maxRecDepth 100000 in
theorem zc_2 : ∀ n ∈ [51, 52, 118, 65, 26, 90, 95, 55, 96, 44, 97, 74, 98, 29, 99, 105, 106, 100, 107, 61, 59, 58, 57, 56], zwc n ∈ tables_1_2 := by
  have e : tables_1_2.filter k2_isCode = [zwc 51, zwc 52, zwc 118, zwc 65, zwc 26, zwc 90, zwc 95, zwc 55, zwc 96, zwc 44, zwc 97, zwc 74, zwc 98, zwc 29, zwc 99, zwc 105, zwc 106, zwc 100, zwc 107, zwc 61, zwc 59, zwc 58, zwc 57, zwc 56] := rfl
  intro n hn
  have h : zwc n ∈ tables_1_2.filter k2_isCode := by
    rw [e]
    simp only [List.mem_cons, List.not_mem_nil, or_false] at hn
    rcases hn with rfl | rfl | rfl | rfl | rfl | rfl | rfl | rfl | rfl | rfl | rfl | rfl | rfl | rfl | rfl | rfl | rfl | rfl | rfl | rfl | rfl | rfl | rfl | rfl <;> simp only [List.mem_cons, true_or, or_true]
  exact (List.mem_filter.mp h).1
set_option maxRecDepth 100000 in
theorem zc_3 : ∀ n ∈ [76, 75, 32, 28, 50, 36, 49, 34, 35, 33, 101, 63, 64, 60, 104, 110, 54, 115, 119, 130, 125, 121, 117, 120, 92, 79, 80, 93, 122, 124, 123, 129, 128, 126, 127, 94, 1, 43, 2, 84, 81, 85, 82, 86, 83, 87, 88, 3, 11, 5, 6, 116, 12, 7, 48, 46], zwc n ∈ tables_1_3 := by
  have e : tables_1_3.filter k2_isCode = [zwc 76, zwc 75, zwc 32, zwc 28, zwc 50, zwc 36, zwc 49, zwc 34, zwc 35, zwc 33, zwc 101, zwc 63, zwc 64, zwc 60, zwc 104, zwc 110, zwc 54, zwc 115, zwc 119, zwc 130, zwc 125, zwc 121, zwc 117, zwc 120, zwc 92, zwc 79, zwc 80, zwc 93, zwc 122, zwc 124, zwc 123, zwc 129, zwc 128, zwc 126, zwc 127, zwc 94, zwc 1, zwc 43, zwc 2, zwc 84, zwc 81, zwc 85, zwc 82, zwc 86, zwc 83, zwc 87, zwc 88, zwc 3, zwc 11, zwc 5, zwc 6, zwc 116, zwc 12, zwc 7, zwc 48, zwc 46] := rfl
  intro n hn
  have h : zwc n ∈ tables_1_3.filter k2_isCode := by
    rw [e]
    simp only [List.mem_cons, List.not_mem_nil, or_false] at hn
    rcases hn with rfl | rfl | rfl | rfl | rfl | rfl | rfl | rfl | rfl | rfl | rfl | rfl | rfl | rfl | rfl | rfl | rfl | rfl | rfl | rfl | rfl | rfl | rfl | rfl | rfl | rfl | rfl | rfl | rfl | rfl | rfl | rfl | rfl | rfl | rfl | rfl | rfl | rfl | rfl | rfl | rfl | rfl | rfl | rfl | rfl | rfl | rfl | rfl | rfl | rfl | rfl | rfl | rfl | rfl | rfl | rfl <;> simp only [List.mem_cons, true_or, or_true]
  exact (List.mem_filter.mp h).1
set_option maxRecDepth 100000 in
theorem zc_4 : ∀ n ∈ [71, 13, 9, 14, 77, 72, 10, 15, 8, 73, 4, 16, 17, 47, 45, 38, 18, 41, 39, 19, 21, 40, 67, 20, 22, 27, 25, 68, 69, 23, 24, 131, 136, 135, 103, 108, 109, 53, 30, 31, 62, 102, 133, 114, 113, 112, 111, 132, 134], zwc n ∈ tables_1_4 := by
  have e : tables_1_4.filter k2_isCode = [zwc 71, zwc 13, zwc 9, zwc 14, zwc 77, zwc 72, zwc 10, zwc 15, zwc 8, zwc 73, zwc 4, zwc 16, zwc 17, zwc 47, zwc 45, zwc 38, zwc 18, zwc 41, zwc 39, zwc 19, zwc 21, zwc 40, zwc 67, zwc 20, zwc 22, zwc 27, zwc 25, zwc 68, zwc 69, zwc 23, zwc 24, zwc 131, zwc 136, zwc 135, zwc 103, zwc 108, zwc 109, zwc 53, zwc 30, zwc 31, zwc 62, zwc 102, zwc 133, zwc 114, zwc 113, zwc 112, zwc 111, zwc 132, zwc 134] := rfl
  intro n hn
  have h : zwc n ∈ tables_1_4.filter k2_isCode := by
    rw [e]
    simp only [List.mem_cons, List.not_mem_nil, or_false] at hn
    rcases hn with rfl | rfl | rfl | rfl | rfl | rfl | rfl | rfl | rfl | rfl | rfl | rfl | rfl | rfl | rfl | rfl | rfl | rfl | rfl | rfl | rfl | rfl | rfl | rfl | rfl | rfl | rfl | rfl | rfl | rfl | rfl | rfl | rfl | rfl | rfl | rfl | rfl | rfl | rfl | rfl | rfl | rfl | rfl | rfl | rfl | rfl | rfl | rfl | rfl <;> simp only [List.mem_cons, true_or, or_true]
  exact (List.mem_filter.mp h).1
def zoIn : List String := [RL, RX11, RX0, RX9, RX4, RX8, RX3, RX7, RJ0, RJ1, RJ3, RJ2, RX6, RJ7, RX1, RX10, RJ9, RX2, RJ10, RX5, RJxd2413, RJxf58ca, RJxe99ae]
theorem zIn_all : zsub (zoIn.map Cond.initialized) lw_tbl = true := by decide +kernel
def zoIs : List (String × Nat) := [(RX11, 14), (RX0, 20), (RX9, 2), (RX4, 4), (RX8, 7), (RX3, 4), (RX7, 8), (RX6, 4), (RX1, 1), (RX10, 6)]
theorem zIs_all : zsub (zoIs.map (fun q => Cond.instantiable q.1 q.2)) lw_tbl = true := by decide +kernel
theorem zAr_all : zsub [.arrayClass .int, .arrayClass .byte, .arrayClass .long] lw_tbl = true := by decide +kernel
theorem zAo_all : zsub [.arrayOver (FieldType.object "RecordBridge$Shape"), .arrayOver (FieldType.object "RecordBridge$Passage"), .arrayOver (FieldType.object "RecordBridge$Rule"), .arrayOver (FieldType.array FieldType.long)] lw_tbl = true := by decide +kernel
theorem zU_0 : zsub (u_ws RX0 TX0 20) lw_tbl = true := by decide +kernel
theorem zU_1 : zsub (u_ws RX1 TX1 1) lw_tbl = true := by decide +kernel
theorem zU_2 : zsub (u_ws RX3 TX3 4) lw_tbl = true := by decide +kernel
theorem zU_3 : zsub (u_ws RX4 TX4 4) lw_tbl = true := by decide +kernel
theorem zU_4 : zsub (u_ws RX6 TX6 4) lw_tbl = true := by decide +kernel
theorem zU_5 : zsub (u_ws RX7 TX7 8) lw_tbl = true := by decide +kernel
theorem zU_6 : zsub (u_ws RX8 TX8 7) lw_tbl = true := by decide +kernel
theorem zU_7 : zsub (u_ws RX9 TX9 2) lw_tbl = true := by decide +kernel
theorem zU_8 : zsub (u_ws RX10 TX10 6) lw_tbl = true := by decide +kernel
theorem zU_9 : zsub (u_ws RX11 TX11 14) lw_tbl = true := by decide +kernel
