/-! lets: a state, a number -/
def st {β : Type} (y : St) (k : St → Option β) : Option β := k y
theorem of_st {β : Type} {y : St} {k : St → Option β} {z : β} (h : st y k = some z) : ∃ w, y = w ∧ k w = some z := ⟨y, rfl, h⟩
def li {β : Type} (v : Int32) (k : Int32 → Option β) : Option β := k v
theorem of_li {β : Type} {v : Int32} {k : Int32 → Option β} {z : β} (h : li v k = some z) : ∃ w, v = w ∧ k w = some z := ⟨v, rfl, h⟩
def lj {β : Type} (v : Int64) (k : Int64 → Option β) : Option β := k v
theorem of_lj {β : Type} {v : Int64} {k : Int64 → Option β} {z : β} (h : lj v k = some z) : ∃ w, v = w ∧ k w = some z := ⟨v, rfl, h⟩
def qc {β : Type} (o : Option Nat) (a : β) (k : Nat → β) : β := match o with
  | none => a
  | some q => k q
def imax (x y : Int32) : Int32 := if x < y then y else x
def imin (x y : Int32) : Int32 := if y < x then y else x
def zb (v : Int32) : Bool := decide (v = 0) || decide (v = 1)
theorem zb_or {v : Int32} (h : zb v = true) : v = 0 ∨ v = 1 := by
  unfold zb at h
  simp only [Bool.or_eq_true, decide_eq_true_eq] at h
  exact h
theorem ix_lt {i : Int32} {n : Nat} (h : ixb i n = true) : ix i < n := by
  unfold ixb at h
  simp only [Bool.and_eq_true, Bool.not_eq_true', decide_eq_false_iff_not, decide_eq_true_eq] at h
  exact h.2
theorem gw_code_GG_init : Cond.code yy_GG_init bb_GG_init 1 (Option.none) ∈ gtb := gtb_of (List.mem_of_getElem? (i := 88) (by decide +kernel)) rfl
theorem gw_code_SH_init : Cond.code yy_SH_init bb_SH_init 1 (Option.none) ∈ gtb := gtb_of (List.mem_of_getElem? (i := 96) (by decide +kernel)) rfl
theorem gw_code_LE_init : Cond.code yy_LE_init bb_LE_init 3 (Option.none) ∈ gtb := gtb_of (List.mem_of_getElem? (i := 102) (by decide +kernel)) rfl
theorem gw_code_MA_max : Cond.code yy_MA_max bb_MA_max 2 (Option.some  FieldType.int) ∈ gtb := gtb_of (List.mem_of_getElem? (i := 106) (by decide +kernel)) rfl
theorem gw_code_AR_fillI : Cond.code yy_AR_fillI bb_AR_fillI 4 (Option.none) ∈ gtb := gtb_of (List.mem_of_getElem? (i := 130) (by decide +kernel)) rfl
theorem gw_code_RE_init : Cond.code yy_RE_init bb_RE_init 1 (Option.none) ∈ gtb := gtb_of (List.mem_of_getElem? (i := 186) (by decide +kernel)) rfl
theorem gw_code_HI_init : Cond.code yy_HI_init bb_HI_init 1 (Option.none) ∈ gtb := gtb_of (List.mem_of_getElem? (i := 223) (by decide +kernel)) rfl
theorem gw_code_OU_init : Cond.code yy_OU_init bb_OU_init 1 (Option.none) ∈ gtb := gtb_of (List.mem_of_getElem? (i := 243) (by decide +kernel)) rfl
theorem gw_code_GG_mourner : Cond.code yy_GG_mourner bb_GG_mourner 4 (Option.some  FieldType.int) ∈ gtb := gtb_of (List.mem_of_getElem? (i := 301) (by decide +kernel)) rfl
theorem gw_code_GG_isWithin : Cond.code yy_GG_isWithin bb_GG_isWithin 3 (Option.some  FieldType.boolean) ∈ gtb := gtb_of (List.mem_of_getElem? (i := 304) (by decide +kernel)) rfl
theorem gw_code_GG_refuseBad : Cond.code yy_GG_refuseBad bb_GG_refuseBad 1 (Option.some  FieldType.int) ∈ gtb := gtb_of (List.mem_of_getElem? (i := 308) (by decide +kernel)) rfl
theorem gw_code_LE_isFull : Cond.code yy_LE_isFull bb_LE_isFull 1 (Option.some  FieldType.boolean) ∈ gtb := gtb_of (List.mem_of_getElem? (i := 312) (by decide +kernel)) rfl
theorem gw_code_GG_refuseFull : Cond.code yy_GG_refuseFull bb_GG_refuseFull 1 (Option.some  FieldType.int) ∈ gtb := gtb_of (List.mem_of_getElem? (i := 316) (by decide +kernel)) rfl
theorem gw_code_SH_addMourner : Cond.code yy_SH_addMourner bb_SH_addMourner 5 (Option.some  FieldType.int) ∈ gtb := gtb_of (List.mem_of_getElem? (i := 320) (by decide +kernel)) rfl
theorem gw_code_LE_add : Cond.code yy_LE_add bb_LE_add 5 (Option.some  FieldType.int) ∈ gtb := gtb_of (List.mem_of_getElem? (i := 324) (by decide +kernel)) rfl
theorem gw_code_SH_renewGriefs : Cond.code yy_SH_renewGriefs bb_SH_renewGriefs 2 (Option.none) ∈ gtb := gtb_of (List.mem_of_getElem? (i := 329) (by decide +kernel)) rfl
theorem gw_code_LE_has : Cond.code yy_LE_has bb_LE_has 2 (Option.some  FieldType.boolean) ∈ gtb := gtb_of (List.mem_of_getElem? (i := 333) (by decide +kernel)) rfl
theorem gw_code_SH_fillGriefs : Cond.code yy_SH_fillGriefs bb_SH_fillGriefs 8 (Option.none) ∈ gtb := gtb_of (List.mem_of_getElem? (i := 337) (by decide +kernel)) rfl
theorem gw_code_LE_at : Cond.code yy_LE_at bb_LE_at 3 (Option.some  FieldType.int) ∈ gtb := gtb_of (List.mem_of_getElem? (i := 341) (by decide +kernel)) rfl
theorem gw_code_KI_stepOf : Cond.code yy_KI_stepOf bb_KI_stepOf 3 (Option.some  FieldType.int) ∈ gtb := gtb_of (List.mem_of_getElem? (i := 345) (by decide +kernel)) rfl
theorem gw_code_KI_widowStep : Cond.code yy_KI_widowStep bb_KI_widowStep 2 (Option.some  FieldType.int) ∈ gtb := gtb_of (List.mem_of_getElem? (i := 348) (by decide +kernel)) rfl
theorem gw_code_KI_mournerStep : Cond.code yy_KI_mournerStep bb_KI_mournerStep 1 (Option.some  FieldType.int) ∈ gtb := gtb_of (List.mem_of_getElem? (i := 351) (by decide +kernel)) rfl
theorem gw_code_KI_heirStep : Cond.code yy_KI_heirStep bb_KI_heirStep 1 (Option.some  FieldType.int) ∈ gtb := gtb_of (List.mem_of_getElem? (i := 354) (by decide +kernel)) rfl
theorem gw_code_SH_isFeastOf : Cond.code yy_SH_isFeastOf bb_SH_isFeastOf 4 (Option.some  FieldType.boolean) ∈ gtb := gtb_of (List.mem_of_getElem? (i := 358) (by decide +kernel)) rfl
theorem gw_code_KI_feastOf : Cond.code yy_KI_feastOf bb_KI_feastOf 2 (Option.some  FieldType.int) ∈ gtb := gtb_of (List.mem_of_getElem? (i := 361) (by decide +kernel)) rfl
theorem gw_code_MA_min : Cond.code yy_MA_min bb_MA_min 2 (Option.some  FieldType.int) ∈ gtb := gtb_of (List.mem_of_getElem? (i := 364) (by decide +kernel)) rfl
theorem gw_code_GG_joint : Cond.code yy_GG_joint bb_GG_joint 2 (Option.some  FieldType.int) ∈ gtb := gtb_of (List.mem_of_getElem? (i := 368) (by decide +kernel)) rfl
theorem gw_code_GG_piece : Cond.code yy_GG_piece bb_GG_piece 3 (Option.some  FieldType.int) ∈ gtb := gtb_of (List.mem_of_getElem? (i := 373) (by decide +kernel)) rfl
theorem gw_code_SH_allJoints : Cond.code yy_SH_allJoints bb_SH_allJoints 1 (Option.some  FieldType.int) ∈ gtb := gtb_of (List.mem_of_getElem? (i := 377) (by decide +kernel)) rfl
theorem gw_code_GG_feast : Cond.code yy_GG_feast bb_GG_feast 4 (Option.some  FieldType.int) ∈ gtb := gtb_of (List.mem_of_getElem? (i := 381) (by decide +kernel)) rfl
theorem gw_code_SH_addFeast : Cond.code yy_SH_addFeast bb_SH_addFeast 5 (Option.some  FieldType.int) ∈ gtb := gtb_of (List.mem_of_getElem? (i := 386) (by decide +kernel)) rfl
theorem gw_code_GG_skip : Cond.code yy_GG_skip bb_GG_skip 1 (Option.some  FieldType.int) ∈ gtb := gtb_of (List.mem_of_getElem? (i := 390) (by decide +kernel)) rfl
theorem gw_code_GG_refuseNo : Cond.code yy_GG_refuseNo bb_GG_refuseNo 1 (Option.some  FieldType.int) ∈ gtb := gtb_of (List.mem_of_getElem? (i := 394) (by decide +kernel)) rfl
theorem gw_code_SH_dropFeast : Cond.code yy_SH_dropFeast bb_SH_dropFeast 2 (Option.none) ∈ gtb := gtb_of (List.mem_of_getElem? (i := 398) (by decide +kernel)) rfl
theorem gw_code_LE_dropLast : Cond.code yy_LE_dropLast bb_LE_dropLast 1 (Option.none) ∈ gtb := gtb_of (List.mem_of_getElem? (i := 402) (by decide +kernel)) rfl
theorem gw_code_GG_boil : Cond.code yy_GG_boil bb_GG_boil 4 (Option.some  FieldType.int) ∈ gtb := gtb_of (List.mem_of_getElem? (i := 406) (by decide +kernel)) rfl
theorem gw_code_SH_keepPast : Cond.code yy_SH_keepPast bb_SH_keepPast 1 (Option.none) ∈ gtb := gtb_of (List.mem_of_getElem? (i := 410) (by decide +kernel)) rfl
theorem gw_code_SH_boilNow : Cond.code yy_SH_boilNow bb_SH_boilNow 4 (Option.none) ∈ gtb := gtb_of (List.mem_of_getElem? (i := 417) (by decide +kernel)) rfl
theorem gw_code_SH_openingOf : Cond.code yy_SH_openingOf bb_SH_openingOf 5 (Option.some  FieldType.int) ∈ gtb := gtb_of (List.mem_of_getElem? (i := 421) (by decide +kernel)) rfl
theorem gw_code_SH_boiledOn : Cond.code yy_SH_boiledOn bb_SH_boiledOn 2 (Option.some  FieldType.int) ∈ gtb := gtb_of (List.mem_of_getElem? (i := 425) (by decide +kernel)) rfl
theorem gw_code_SH_firstBoiler : Cond.code yy_SH_firstBoiler bb_SH_firstBoiler 2 (Option.some  FieldType.int) ∈ gtb := gtb_of (List.mem_of_getElem? (i := 429) (by decide +kernel)) rfl
theorem gw_code_SH_griefsOf : Cond.code yy_SH_griefsOf bb_SH_griefsOf 2 (Option.some ( FieldType.array  FieldType.int)) ∈ gtb := gtb_of (List.mem_of_getElem? (i := 433) (by decide +kernel)) rfl
theorem gw_code_SH_secondBoiler : Cond.code yy_SH_secondBoiler bb_SH_secondBoiler 2 (Option.some  FieldType.int) ∈ gtb := gtb_of (List.mem_of_getElem? (i := 437) (by decide +kernel)) rfl
theorem gw_code_SH_firstWeakDay : Cond.code yy_SH_firstWeakDay bb_SH_firstWeakDay 7 (Option.some  FieldType.int) ∈ gtb := gtb_of (List.mem_of_getElem? (i := 440) (by decide +kernel)) rfl
theorem gw_code_GG_day : Cond.code yy_GG_day bb_GG_day 2 (Option.some  FieldType.int) ∈ gtb := gtb_of (List.mem_of_getElem? (i := 445) (by decide +kernel)) rfl
theorem gw_code_SH_openJoints : Cond.code yy_SH_openJoints bb_SH_openJoints 3 (Option.some  FieldType.int) ∈ gtb := gtb_of (List.mem_of_getElem? (i := 449) (by decide +kernel)) rfl
theorem gw_code_IN_bitCount : Cond.code yy_IN_bitCount bb_IN_bitCount 1 (Option.some  FieldType.int) ∈ gtb := gtb_of (List.mem_of_getElem? (i := 453) (by decide +kernel)) rfl
theorem gw_code_GG_undo : Cond.code yy_GG_undo bb_GG_undo 1 (Option.some  FieldType.int) ∈ gtb := gtb_of (List.mem_of_getElem? (i := 460) (by decide +kernel)) rfl
theorem gw_code_SH_goBack : Cond.code yy_SH_goBack bb_SH_goBack 1 (Option.none) ∈ gtb := gtb_of (List.mem_of_getElem? (i := 464) (by decide +kernel)) rfl
theorem gw_code_GG_type : Cond.code yy_GG_type bb_GG_type 5 (Option.some  FieldType.int) ∈ gtb := gtb_of (List.mem_of_getElem? (i := 468) (by decide +kernel)) rfl
theorem gw_code_RE_addByte : Cond.code yy_RE_addByte bb_RE_addByte 2 (Option.none) ∈ gtb := gtb_of (List.mem_of_getElem? (i := 472) (by decide +kernel)) rfl
theorem gw_code_GG_clear : Cond.code yy_GG_clear bb_GG_clear 2 (Option.some  FieldType.int) ∈ gtb := gtb_of (List.mem_of_getElem? (i := 476) (by decide +kernel)) rfl
theorem gw_code_GG_read : Cond.code yy_GG_read bb_GG_read 2 (Option.some  FieldType.int) ∈ gtb := gtb_of (List.mem_of_getElem? (i := 480) (by decide +kernel)) rfl
theorem gw_code_RE_readItems : Cond.code yy_RE_readItems bb_RE_readItems 3 (Option.some  FieldType.int) ∈ gtb := gtb_of (List.mem_of_getElem? (i := 484) (by decide +kernel)) rfl
theorem gw_code_SH_makeEmpty : Cond.code yy_SH_makeEmpty bb_SH_makeEmpty 1 (Option.none) ∈ gtb := gtb_of (List.mem_of_getElem? (i := 488) (by decide +kernel)) rfl
theorem gw_code_RE_nextToken : Cond.code yy_RE_nextToken bb_RE_nextToken 1 (Option.none) ∈ gtb := gtb_of (List.mem_of_getElem? (i := 492) (by decide +kernel)) rfl
theorem gw_code_RE_isLetter : Cond.code yy_RE_isLetter bb_RE_isLetter 1 (Option.some  FieldType.boolean) ∈ gtb := gtb_of (List.mem_of_getElem? (i := 495) (by decide +kernel)) rfl
theorem gw_code_RE_readLetters : Cond.code yy_RE_readLetters bb_RE_readLetters 1 (Option.none) ∈ gtb := gtb_of (List.mem_of_getElem? (i := 499) (by decide +kernel)) rfl
theorem gw_code_RE_isFigure : Cond.code yy_RE_isFigure bb_RE_isFigure 1 (Option.some  FieldType.boolean) ∈ gtb := gtb_of (List.mem_of_getElem? (i := 502) (by decide +kernel)) rfl
theorem gw_code_RE_readFigures : Cond.code yy_RE_readFigures bb_RE_readFigures 1 (Option.none) ∈ gtb := gtb_of (List.mem_of_getElem? (i := 506) (by decide +kernel)) rfl
theorem gw_code_RE_isWord : Cond.code yy_RE_isWord bb_RE_isWord 3 (Option.some  FieldType.boolean) ∈ gtb := gtb_of (List.mem_of_getElem? (i := 511) (by decide +kernel)) rfl
theorem gw_code_ST_length : Cond.code yy_ST_length bb_ST_length 1 (Option.some  FieldType.int) ∈ gtb := gtb_of (List.mem_of_getElem? (i := 515) (by decide +kernel)) rfl
theorem gw_code_ST_coder : Cond.code yy_ST_coder bb_ST_coder 1 (Option.some  FieldType.byte) ∈ gtb := gtb_of (List.mem_of_getElem? (i := 519) (by decide +kernel)) rfl
theorem gw_code_ST_charAt : Cond.code yy_ST_charAt bb_ST_charAt 2 (Option.some  FieldType.char) ∈ gtb := gtb_of (List.mem_of_getElem? (i := 525) (by decide +kernel)) rfl
theorem gw_code_ST_isLatin1 : Cond.code yy_ST_isLatin1 bb_ST_isLatin1 1 (Option.some  FieldType.boolean) ∈ gtb := gtb_of (List.mem_of_getElem? (i := 529) (by decide +kernel)) rfl
theorem gw_code_SL_charAt : Cond.code yy_SL_charAt bb_SL_charAt 2 (Option.some  FieldType.char) ∈ gtb := gtb_of (List.mem_of_getElem? (i := 532) (by decide +kernel)) rfl
theorem gw_code_ST_checkIndex : Cond.code yy_ST_checkIndex bb_ST_checkIndex 2 (Option.none) ∈ gtb := gtb_of (List.mem_of_getElem? (i := 535) (by decide +kernel)) rfl
theorem gw_code_PR_checkIndex : Cond.code yy_PR_checkIndex bb_PR_checkIndex 3 (Option.some  FieldType.int) ∈ gtb := gtb_of (List.mem_of_getElem? (i := 540) (by decide +kernel)) rfl
theorem gw_code_SU_charAt : Cond.code yy_SU_charAt bb_SU_charAt 2 (Option.some  FieldType.char) ∈ gtb := gtb_of (List.mem_of_getElem? (i := 543) (by decide +kernel)) rfl
theorem gw_code_SU_checkIndex : Cond.code yy_SU_checkIndex bb_SU_checkIndex 2 (Option.none) ∈ gtb := gtb_of (List.mem_of_getElem? (i := 546) (by decide +kernel)) rfl
theorem gw_code_SU_length : Cond.code yy_SU_length bb_SU_length 1 (Option.some  FieldType.int) ∈ gtb := gtb_of (List.mem_of_getElem? (i := 549) (by decide +kernel)) rfl
theorem gw_code_SU_getChar : Cond.code yy_SU_getChar bb_SU_getChar 2 (Option.some  FieldType.char) ∈ gtb := gtb_of (List.mem_of_getElem? (i := 553) (by decide +kernel)) rfl
theorem gw_code_RE_readMourner : Cond.code yy_RE_readMourner bb_RE_readMourner 4 (Option.none) ∈ gtb := gtb_of (List.mem_of_getElem? (i := 563) (by decide +kernel)) rfl
theorem gw_code_RE_wantRoom : Cond.code yy_RE_wantRoom bb_RE_wantRoom 2 (Option.none) ∈ gtb := gtb_of (List.mem_of_getElem? (i := 567) (by decide +kernel)) rfl
theorem gw_code_RE_blame : Cond.code yy_RE_blame bb_RE_blame 1 (Option.none) ∈ gtb := gtb_of (List.mem_of_getElem? (i := 572) (by decide +kernel)) rfl
theorem gw_code_RE_readNumber : Cond.code yy_RE_readNumber bb_RE_readNumber 3 (Option.some  FieldType.int) ∈ gtb := gtb_of (List.mem_of_getElem? (i := 576) (by decide +kernel)) rfl
theorem gw_code_RE_wantNumber : Cond.code yy_RE_wantNumber bb_RE_wantNumber 3 (Option.none) ∈ gtb := gtb_of (List.mem_of_getElem? (i := 580) (by decide +kernel)) rfl
theorem gw_code_RE_readStop : Cond.code yy_RE_readStop bb_RE_readStop 1 (Option.none) ∈ gtb := gtb_of (List.mem_of_getElem? (i := 585) (by decide +kernel)) rfl
theorem gw_code_RE_wantStop : Cond.code yy_RE_wantStop bb_RE_wantStop 1 (Option.none) ∈ gtb := gtb_of (List.mem_of_getElem? (i := 589) (by decide +kernel)) rfl
theorem gw_code_RE_readJoint : Cond.code yy_RE_readJoint bb_RE_readJoint 2 (Option.none) ∈ gtb := gtb_of (List.mem_of_getElem? (i := 595) (by decide +kernel)) rfl
theorem gw_code_RE_readPiece : Cond.code yy_RE_readPiece bb_RE_readPiece 3 (Option.none) ∈ gtb := gtb_of (List.mem_of_getElem? (i := 600) (by decide +kernel)) rfl
theorem gw_code_RE_readFeast : Cond.code yy_RE_readFeast bb_RE_readFeast 4 (Option.none) ∈ gtb := gtb_of (List.mem_of_getElem? (i := 606) (by decide +kernel)) rfl
theorem gw_code_RE_readDay : Cond.code yy_RE_readDay bb_RE_readDay 2 (Option.none) ∈ gtb := gtb_of (List.mem_of_getElem? (i := 612) (by decide +kernel)) rfl
theorem gw_code_RE_readBoil : Cond.code yy_RE_readBoil bb_RE_readBoil 4 (Option.none) ∈ gtb := gtb_of (List.mem_of_getElem? (i := 617) (by decide +kernel)) rfl
theorem gw_code_SH_copyFrom : Cond.code yy_SH_copyFrom bb_SH_copyFrom 3 (Option.none) ∈ gtb := gtb_of (List.mem_of_getElem? (i := 622) (by decide +kernel)) rfl
theorem gw_code_LE_copyFrom : Cond.code yy_LE_copyFrom bb_LE_copyFrom 2 (Option.none) ∈ gtb := gtb_of (List.mem_of_getElem? (i := 626) (by decide +kernel)) rfl
theorem gw_code_SH_renewAllGriefs : Cond.code yy_SH_renewAllGriefs bb_SH_renewAllGriefs 2 (Option.none) ∈ gtb := gtb_of (List.mem_of_getElem? (i := 631) (by decide +kernel)) rfl
theorem gw_code_GG_grief : Cond.code yy_GG_grief bb_GG_grief 3 (Option.some  FieldType.int) ∈ gtb := gtb_of (List.mem_of_getElem? (i := 636) (by decide +kernel)) rfl
theorem gw_code_SH_griefOn : Cond.code yy_SH_griefOn bb_SH_griefOn 3 (Option.some  FieldType.int) ∈ gtb := gtb_of (List.mem_of_getElem? (i := 640) (by decide +kernel)) rfl
theorem gw_code_GG_opens : Cond.code yy_GG_opens bb_GG_opens 2 (Option.some  FieldType.int) ∈ gtb := gtb_of (List.mem_of_getElem? (i := 645) (by decide +kernel)) rfl
theorem gw_code_GG_lasts : Cond.code yy_GG_lasts bb_GG_lasts 2 (Option.some  FieldType.int) ∈ gtb := gtb_of (List.mem_of_getElem? (i := 649) (by decide +kernel)) rfl
theorem gw_code_SH_isLasting : Cond.code yy_SH_isLasting bb_SH_isLasting 4 (Option.some  FieldType.boolean) ∈ gtb := gtb_of (List.mem_of_getElem? (i := 653) (by decide +kernel)) rfl
theorem gw_code_SH_isPartOf : Cond.code yy_SH_isPartOf bb_SH_isPartOf 3 (Option.some  FieldType.boolean) ∈ gtb := gtb_of (List.mem_of_getElem? (i := 657) (by decide +kernel)) rfl
theorem gw_code_GG_open : Cond.code yy_GG_open bb_GG_open 1 (Option.some  FieldType.int) ∈ gtb := gtb_of (List.mem_of_getElem? (i := 661) (by decide +kernel)) rfl
theorem gw_code_GG_hire : Cond.code yy_GG_hire bb_GG_hire 3 (Option.some  FieldType.int) ∈ gtb := gtb_of (List.mem_of_getElem? (i := 665) (by decide +kernel)) rfl
theorem gw_code_HI_lookAt : Cond.code yy_HI_lookAt bb_HI_lookAt 3 (Option.none) ∈ gtb := gtb_of (List.mem_of_getElem? (i := 669) (by decide +kernel)) rfl
theorem gw_code_HI_lookForNeeds : Cond.code yy_HI_lookForNeeds bb_HI_lookForNeeds 5 (Option.none) ∈ gtb := gtb_of (List.mem_of_getElem? (i := 675) (by decide +kernel)) rfl
theorem gw_code_HI_fitsOf : Cond.code yy_HI_fitsOf bb_HI_fitsOf 10 (Option.some  FieldType.long) ∈ gtb := gtb_of (List.mem_of_getElem? (i := 683) (by decide +kernel)) rfl
theorem gw_code_HI_pairBit : Cond.code yy_HI_pairBit bb_HI_pairBit 2 (Option.some  FieldType.long) ∈ gtb := gtb_of (List.mem_of_getElem? (i := 688) (by decide +kernel)) rfl
theorem gw_code_HI_cheapest : Cond.code yy_HI_cheapest bb_HI_cheapest 6 (Option.some  FieldType.int) ∈ gtb := gtb_of (List.mem_of_getElem? (i := 692) (by decide +kernel)) rfl
theorem gw_code_HI_isIn : Cond.code yy_HI_isIn bb_HI_isIn 2 (Option.some  FieldType.boolean) ∈ gtb := gtb_of (List.mem_of_getElem? (i := 695) (by decide +kernel)) rfl
theorem gw_code_HI_priceOf : Cond.code yy_HI_priceOf bb_HI_priceOf 4 (Option.some  FieldType.int) ∈ gtb := gtb_of (List.mem_of_getElem? (i := 699) (by decide +kernel)) rfl
theorem gw_code_HI_isEnough : Cond.code yy_HI_isEnough bb_HI_isEnough 3 (Option.some  FieldType.boolean) ∈ gtb := gtb_of (List.mem_of_getElem? (i := 703) (by decide +kernel)) rfl
theorem gw_code_HI_boilersFor : Cond.code yy_HI_boilersFor bb_HI_boilersFor 5 (Option.some  FieldType.int) ∈ gtb := gtb_of (List.mem_of_getElem? (i := 707) (by decide +kernel)) rfl
theorem gw_code_GG_who : Cond.code yy_GG_who bb_GG_who 3 (Option.some  FieldType.int) ∈ gtb := gtb_of (List.mem_of_getElem? (i := 713) (by decide +kernel)) rfl
theorem gw_code_HI_isNeedy : Cond.code yy_HI_isNeedy bb_HI_isNeedy 2 (Option.some  FieldType.boolean) ∈ gtb := gtb_of (List.mem_of_getElem? (i := 717) (by decide +kernel)) rfl
theorem gw_code_GG_saves : Cond.code yy_GG_saves bb_GG_saves 4 (Option.some  FieldType.int) ∈ gtb := gtb_of (List.mem_of_getElem? (i := 722) (by decide +kernel)) rfl
theorem gw_code_GG_tears : Cond.code yy_GG_tears bb_GG_tears 4 (Option.some  FieldType.int) ∈ gtb := gtb_of (List.mem_of_getElem? (i := 726) (by decide +kernel)) rfl
theorem gw_code_OU_fewestOnions : Cond.code yy_OU_fewestOnions bb_OU_fewestOnions 8 (Option.some  FieldType.int) ∈ gtb := gtb_of (List.mem_of_getElem? (i := 730) (by decide +kernel)) rfl
theorem gw_code_SH_fillNextGriefs : Cond.code yy_SH_fillNextGriefs bb_SH_fillNextGriefs 7 (Option.none) ∈ gtb := gtb_of (List.mem_of_getElem? (i := 738) (by decide +kernel)) rfl
theorem gw_code_OU_weepADay : Cond.code yy_OU_weepADay bb_OU_weepADay 5 (Option.none) ∈ gtb := gtb_of (List.mem_of_getElem? (i := 742) (by decide +kernel)) rfl
theorem gw_code_GG_fact : Cond.code yy_GG_fact bb_GG_fact 4 (Option.some  FieldType.int) ∈ gtb := gtb_of (List.mem_of_getElem? (i := 748) (by decide +kernel)) rfl
theorem gw_code_GG_forget : Cond.code yy_GG_forget bb_GG_forget 2 (Option.some  FieldType.int) ∈ gtb := gtb_of (List.mem_of_getElem? (i := 752) (by decide +kernel)) rfl
theorem gw_code_GG_likely : Cond.code yy_GG_likely bb_GG_likely 3 (Option.some  FieldType.int) ∈ gtb := gtb_of (List.mem_of_getElem? (i := 756) (by decide +kernel)) rfl
theorem gw_code_OU_firstGriefs : Cond.code yy_OU_firstGriefs bb_OU_firstGriefs 8 (Option.some  FieldType.int) ∈ gtb := gtb_of (List.mem_of_getElem? (i := 760) (by decide +kernel)) rfl
theorem gw_code_OU_isByFacts : Cond.code yy_OU_isByFacts bb_OU_isByFacts 8 (Option.some  FieldType.boolean) ∈ gtb := gtb_of (List.mem_of_getElem? (i := 764) (by decide +kernel)) rfl
theorem gw_code_GG_odds : Cond.code yy_GG_odds bb_GG_odds 11 (Option.some  FieldType.int) ∈ gtb := gtb_of (List.mem_of_getElem? (i := 771) (by decide +kernel)) rfl
theorem gw_code_OU_chancesToHold : Cond.code yy_OU_chancesToHold bb_OU_chancesToHold 10 (Option.some  FieldType.long) ∈ gtb := gtb_of (List.mem_of_getElem? (i := 775) (by decide +kernel)) rfl
theorem gw_code_AR_fillJ : Cond.code yy_AR_fillJ bb_AR_fillJ 5 (Option.none) ∈ gtb := gtb_of (List.mem_of_getElem? (i := 778) (by decide +kernel)) rfl
theorem gw_code_OU_weddingADay : Cond.code yy_OU_weddingADay bb_OU_weddingADay 4 (Option.none) ∈ gtb := gtb_of (List.mem_of_getElem? (i := 782) (by decide +kernel)) rfl
theorem gw_code_GG_tenTo : Cond.code yy_GG_tenTo bb_GG_tenTo 4 (Option.some  FieldType.long) ∈ gtb := gtb_of (List.mem_of_getElem? (i := 786) (by decide +kernel)) rfl
theorem gw_code_GG_commonDivisor : Cond.code yy_GG_commonDivisor bb_GG_commonDivisor 11 (Option.some  FieldType.long) ∈ gtb := gtb_of (List.mem_of_getElem? (i := 790) (by decide +kernel)) rfl
theorem gw_code_GG_harm : Cond.code yy_GG_harm bb_GG_harm 2 (Option.some  FieldType.int) ∈ gtb := gtb_of (List.mem_of_getElem? (i := 794) (by decide +kernel)) rfl
theorem gw_code_OU_harmOf : Cond.code yy_OU_harmOf bb_OU_harmOf 11 (Option.some  FieldType.int) ∈ gtb := gtb_of (List.mem_of_getElem? (i := 798) (by decide +kernel)) rfl
theorem gw_code_OU_griefsWithout : Cond.code yy_OU_griefsWithout bb_OU_griefsWithout 4 (Option.some ( FieldType.array  FieldType.int)) ∈ gtb := gtb_of (List.mem_of_getElem? (i := 805) (by decide +kernel)) rfl
theorem gw_code_GG_part : Cond.code yy_GG_part bb_GG_part 2 (Option.some  FieldType.long) ∈ gtb := gtb_of (List.mem_of_getElem? (i := 812) (by decide +kernel)) rfl
theorem gw_code_GG_image : Cond.code yy_GG_image bb_GG_image 2 (Option.some  FieldType.int) ∈ gtb := gtb_of (List.mem_of_getElem? (i := 816) (by decide +kernel)) rfl
theorem gw_code_GG_from : Cond.code yy_GG_from bb_GG_from 2 (Option.some  FieldType.int) ∈ gtb := gtb_of (List.mem_of_getElem? (i := 820) (by decide +kernel)) rfl
theorem gw_code_GG_status : Cond.code yy_GG_status bb_GG_status 2 (Option.some  FieldType.int) ∈ gtb := gtb_of (List.mem_of_getElem? (i := 824) (by decide +kernel)) rfl
theorem gw_code_GG_count : Cond.code yy_GG_count bb_GG_count 2 (Option.some  FieldType.int) ∈ gtb := gtb_of (List.mem_of_getElem? (i := 828) (by decide +kernel)) rfl
theorem gw_code_GG_countOf : Cond.code yy_GG_countOf bb_GG_countOf 2 (Option.some  FieldType.int) ∈ gtb := gtb_of (List.mem_of_getElem? (i := 832) (by decide +kernel)) rfl
theorem gw_code_GG_digest : Cond.code yy_GG_digest bb_GG_digest 4 (Option.some  FieldType.long) ∈ gtb := gtb_of (List.mem_of_getElem? (i := 836) (by decide +kernel)) rfl
theorem gw_code_LE_mixInto : Cond.code yy_LE_mixInto bb_LE_mixInto 6 (Option.some  FieldType.long) ∈ gtb := gtb_of (List.mem_of_getElem? (i := 842) (by decide +kernel)) rfl
theorem gw_code_SH_mixJointsInto : Cond.code yy_SH_mixJointsInto bb_SH_mixJointsInto 6 (Option.some  FieldType.long) ∈ gtb := gtb_of (List.mem_of_getElem? (i := 847) (by decide +kernel)) rfl
theorem gw_code_MO_init : Cond.code yy_MO_init bb_MO_init 1 (Option.none) ∈ gtb := gtb_of (List.mem_of_getElem? (i := 853) (by decide +kernel)) rfl
theorem gw_code_MO_mourner : Cond.code yy_MO_mourner bb_MO_mourner 4 (Option.some  FieldType.int) ∈ gtb := gtb_of (List.mem_of_getElem? (i := 928) (by decide +kernel)) rfl
theorem gw_code_MO_in : Cond.code yy_MO_in bb_MO_in 3 (Option.some  FieldType.boolean) ∈ gtb := gtb_of (List.mem_of_getElem? (i := 931) (by decide +kernel)) rfl
theorem gw_code_MO_bad : Cond.code yy_MO_bad bb_MO_bad 1 (Option.some  FieldType.int) ∈ gtb := gtb_of (List.mem_of_getElem? (i := 935) (by decide +kernel)) rfl
theorem gw_code_MO_get : Cond.code yy_MO_get bb_MO_get 2 (Option.some  FieldType.int) ∈ gtb := gtb_of (List.mem_of_getElem? (i := 939) (by decide +kernel)) rfl
theorem gw_code_MO_full : Cond.code yy_MO_full bb_MO_full 1 (Option.some  FieldType.int) ∈ gtb := gtb_of (List.mem_of_getElem? (i := 943) (by decide +kernel)) rfl
theorem gw_code_MO_addMourner : Cond.code yy_MO_addMourner bb_MO_addMourner 5 (Option.none) ∈ gtb := gtb_of (List.mem_of_getElem? (i := 947) (by decide +kernel)) rfl
theorem gw_code_MO_set : Cond.code yy_MO_set bb_MO_set 3 (Option.none) ∈ gtb := gtb_of (List.mem_of_getElem? (i := 951) (by decide +kernel)) rfl
theorem gw_code_MO_joint : Cond.code yy_MO_joint bb_MO_joint 2 (Option.some  FieldType.int) ∈ gtb := gtb_of (List.mem_of_getElem? (i := 955) (by decide +kernel)) rfl
theorem gw_code_MO_addJoint : Cond.code yy_MO_addJoint bb_MO_addJoint 3 (Option.none) ∈ gtb := gtb_of (List.mem_of_getElem? (i := 959) (by decide +kernel)) rfl
theorem gw_code_MO_piece : Cond.code yy_MO_piece bb_MO_piece 3 (Option.some  FieldType.int) ∈ gtb := gtb_of (List.mem_of_getElem? (i := 963) (by decide +kernel)) rfl
theorem gw_code_MO_isSet : Cond.code yy_MO_isSet bb_MO_isSet 2 (Option.some  FieldType.boolean) ∈ gtb := gtb_of (List.mem_of_getElem? (i := 967) (by decide +kernel)) rfl
theorem gw_code_MO_addPiece : Cond.code yy_MO_addPiece bb_MO_addPiece 4 (Option.none) ∈ gtb := gtb_of (List.mem_of_getElem? (i := 971) (by decide +kernel)) rfl
theorem gw_code_MO_feast : Cond.code yy_MO_feast bb_MO_feast 4 (Option.some  FieldType.int) ∈ gtb := gtb_of (List.mem_of_getElem? (i := 975) (by decide +kernel)) rfl
theorem gw_code_MO_isMourner : Cond.code yy_MO_isMourner bb_MO_isMourner 2 (Option.some  FieldType.boolean) ∈ gtb := gtb_of (List.mem_of_getElem? (i := 979) (by decide +kernel)) rfl
theorem gw_code_MO_addFeast : Cond.code yy_MO_addFeast bb_MO_addFeast 5 (Option.none) ∈ gtb := gtb_of (List.mem_of_getElem? (i := 983) (by decide +kernel)) rfl
theorem gw_code_MO_skip : Cond.code yy_MO_skip bb_MO_skip 1 (Option.some  FieldType.int) ∈ gtb := gtb_of (List.mem_of_getElem? (i := 987) (by decide +kernel)) rfl
theorem gw_code_MO_no : Cond.code yy_MO_no bb_MO_no 1 (Option.some  FieldType.int) ∈ gtb := gtb_of (List.mem_of_getElem? (i := 991) (by decide +kernel)) rfl
theorem gw_code_MO_undo : Cond.code yy_MO_undo bb_MO_undo 4 (Option.some  FieldType.int) ∈ gtb := gtb_of (List.mem_of_getElem? (i := 995) (by decide +kernel)) rfl
theorem gw_code_MO_boil : Cond.code yy_MO_boil bb_MO_boil 4 (Option.some  FieldType.int) ∈ gtb := gtb_of (List.mem_of_getElem? (i := 999) (by decide +kernel)) rfl
theorem gw_code_MO_isJoint : Cond.code yy_MO_isJoint bb_MO_isJoint 2 (Option.some  FieldType.boolean) ∈ gtb := gtb_of (List.mem_of_getElem? (i := 1003) (by decide +kernel)) rfl
theorem gw_code_MO_know : Cond.code yy_MO_know bb_MO_know 4 (Option.none) ∈ gtb := gtb_of (List.mem_of_getElem? (i := 1007) (by decide +kernel)) rfl
theorem gw_code_MO_boiled : Cond.code yy_MO_boiled bb_MO_boiled 5 (Option.none) ∈ gtb := gtb_of (List.mem_of_getElem? (i := 1011) (by decide +kernel)) rfl
theorem gw_code_MO_opensOn : Cond.code yy_MO_opensOn bb_MO_opensOn 2 (Option.some  FieldType.int) ∈ gtb := gtb_of (List.mem_of_getElem? (i := 1015) (by decide +kernel)) rfl
theorem gw_code_MO_findGriefs : Cond.code yy_MO_findGriefs bb_MO_findGriefs 4 (Option.none) ∈ gtb := gtb_of (List.mem_of_getElem? (i := 1019) (by decide +kernel)) rfl
theorem gw_code_MO_onDay : Cond.code yy_MO_onDay bb_MO_onDay 7 (Option.some  FieldType.int) ∈ gtb := gtb_of (List.mem_of_getElem? (i := 1023) (by decide +kernel)) rfl
theorem gw_code_MO_step : Cond.code yy_MO_step bb_MO_step 3 (Option.some  FieldType.int) ∈ gtb := gtb_of (List.mem_of_getElem? (i := 1026) (by decide +kernel)) rfl
theorem gw_code_MO_less : Cond.code yy_MO_less bb_MO_less 2 (Option.some  FieldType.int) ∈ gtb := gtb_of (List.mem_of_getElem? (i := 1029) (by decide +kernel)) rfl
theorem gw_code_MO_widow : Cond.code yy_MO_widow bb_MO_widow 2 (Option.some  FieldType.int) ∈ gtb := gtb_of (List.mem_of_getElem? (i := 1032) (by decide +kernel)) rfl
theorem gw_code_MO_more : Cond.code yy_MO_more bb_MO_more 1 (Option.some  FieldType.int) ∈ gtb := gtb_of (List.mem_of_getElem? (i := 1035) (by decide +kernel)) rfl
theorem gw_code_MO_opensBy : Cond.code yy_MO_opensBy bb_MO_opensBy 4 (Option.some  FieldType.int) ∈ gtb := gtb_of (List.mem_of_getElem? (i := 1039) (by decide +kernel)) rfl
theorem gw_code_MO_strength : Cond.code yy_MO_strength bb_MO_strength 4 (Option.some  FieldType.int) ∈ gtb := gtb_of (List.mem_of_getElem? (i := 1043) (by decide +kernel)) rfl
theorem gw_code_MO_day : Cond.code yy_MO_day bb_MO_day 5 (Option.some  FieldType.int) ∈ gtb := gtb_of (List.mem_of_getElem? (i := 1047) (by decide +kernel)) rfl
theorem gw_code_MO_openNow : Cond.code yy_MO_openNow bb_MO_openNow 3 (Option.some  FieldType.int) ∈ gtb := gtb_of (List.mem_of_getElem? (i := 1051) (by decide +kernel)) rfl
theorem gw_code_MO_isBoiled : Cond.code yy_MO_isBoiled bb_MO_isBoiled 2 (Option.some  FieldType.boolean) ∈ gtb := gtb_of (List.mem_of_getElem? (i := 1055) (by decide +kernel)) rfl
theorem gw_code_MO_type : Cond.code yy_MO_type bb_MO_type 5 (Option.some  FieldType.int) ∈ gtb := gtb_of (List.mem_of_getElem? (i := 1059) (by decide +kernel)) rfl
theorem gw_code_MO_clear : Cond.code yy_MO_clear bb_MO_clear 2 (Option.some  FieldType.int) ∈ gtb := gtb_of (List.mem_of_getElem? (i := 1064) (by decide +kernel)) rfl
theorem gw_code_MO_read : Cond.code yy_MO_read bb_MO_read 2 (Option.some  FieldType.int) ∈ gtb := gtb_of (List.mem_of_getElem? (i := 1068) (by decide +kernel)) rfl
theorem gw_code_MO_next : Cond.code yy_MO_next bb_MO_next 5 (Option.none) ∈ gtb := gtb_of (List.mem_of_getElem? (i := 1072) (by decide +kernel)) rfl
theorem gw_code_MO_here : Cond.code yy_MO_here bb_MO_here 1 (Option.some  FieldType.int) ∈ gtb := gtb_of (List.mem_of_getElem? (i := 1076) (by decide +kernel)) rfl
theorem gw_code_MO_meaning : Cond.code yy_MO_meaning bb_MO_meaning 2 (Option.some  FieldType.int) ∈ gtb := gtb_of (List.mem_of_getElem? (i := 1079) (by decide +kernel)) rfl
theorem gw_code_MO_readItem : Cond.code yy_MO_readItem bb_MO_readItem 3 (Option.none) ∈ gtb := gtb_of (List.mem_of_getElem? (i := 1085) (by decide +kernel)) rfl
theorem gw_code_MO_mayBe : Cond.code yy_MO_mayBe bb_MO_mayBe 2 (Option.some  FieldType.boolean) ∈ gtb := gtb_of (List.mem_of_getElem? (i := 1089) (by decide +kernel)) rfl
theorem gw_code_MO_due : Cond.code yy_MO_due bb_MO_due 3 (Option.some  FieldType.int) ∈ gtb := gtb_of (List.mem_of_getElem? (i := 1093) (by decide +kernel)) rfl
theorem gw_code_MO_isNumber : Cond.code yy_MO_isNumber bb_MO_isNumber 3 (Option.some  FieldType.boolean) ∈ gtb := gtb_of (List.mem_of_getElem? (i := 1097) (by decide +kernel)) rfl
theorem gw_code_MO_readBoil : Cond.code yy_MO_readBoil bb_MO_readBoil 4 (Option.none) ∈ gtb := gtb_of (List.mem_of_getElem? (i := 1101) (by decide +kernel)) rfl
theorem gw_code_MO_readRow : Cond.code yy_MO_readRow bb_MO_readRow 5 (Option.none) ∈ gtb := gtb_of (List.mem_of_getElem? (i := 1105) (by decide +kernel)) rfl
theorem gw_code_MO_copy : Cond.code yy_MO_copy bb_MO_copy 4 (Option.none) ∈ gtb := gtb_of (List.mem_of_getElem? (i := 1109) (by decide +kernel)) rfl
theorem gw_code_MO_grief : Cond.code yy_MO_grief bb_MO_grief 3 (Option.some  FieldType.int) ∈ gtb := gtb_of (List.mem_of_getElem? (i := 1113) (by decide +kernel)) rfl
theorem gw_code_MO_opens : Cond.code yy_MO_opens bb_MO_opens 2 (Option.some  FieldType.int) ∈ gtb := gtb_of (List.mem_of_getElem? (i := 1117) (by decide +kernel)) rfl
theorem gw_code_MO_lasts : Cond.code yy_MO_lasts bb_MO_lasts 2 (Option.some  FieldType.int) ∈ gtb := gtb_of (List.mem_of_getElem? (i := 1121) (by decide +kernel)) rfl
theorem gw_code_MO_isLasting : Cond.code yy_MO_isLasting bb_MO_isLasting 6 (Option.some  FieldType.boolean) ∈ gtb := gtb_of (List.mem_of_getElem? (i := 1125) (by decide +kernel)) rfl
theorem gw_code_MO_open : Cond.code yy_MO_open bb_MO_open 1 (Option.some  FieldType.int) ∈ gtb := gtb_of (List.mem_of_getElem? (i := 1129) (by decide +kernel)) rfl
theorem gw_code_MO_hire : Cond.code yy_MO_hire bb_MO_hire 3 (Option.some  FieldType.int) ∈ gtb := gtb_of (List.mem_of_getElem? (i := 1133) (by decide +kernel)) rfl
theorem gw_code_MO_findNeeds : Cond.code yy_MO_findNeeds bb_MO_findNeeds 4 (Option.none) ∈ gtb := gtb_of (List.mem_of_getElem? (i := 1137) (by decide +kernel)) rfl
theorem gw_code_MO_hired : Cond.code yy_MO_hired bb_MO_hired 6 (Option.some  FieldType.int) ∈ gtb := gtb_of (List.mem_of_getElem? (i := 1141) (by decide +kernel)) rfl
theorem gw_code_MO_priceOf : Cond.code yy_MO_priceOf bb_MO_priceOf 4 (Option.some  FieldType.int) ∈ gtb := gtb_of (List.mem_of_getElem? (i := 1145) (by decide +kernel)) rfl
theorem gw_code_MO_whoOf : Cond.code yy_MO_whoOf bb_MO_whoOf 5 (Option.some  FieldType.int) ∈ gtb := gtb_of (List.mem_of_getElem? (i := 1149) (by decide +kernel)) rfl
theorem gw_code_MO_wouldHold : Cond.code yy_MO_wouldHold bb_MO_wouldHold 6 (Option.some  FieldType.boolean) ∈ gtb := gtb_of (List.mem_of_getElem? (i := 1153) (by decide +kernel)) rfl
theorem gw_code_MO_who : Cond.code yy_MO_who bb_MO_who 3 (Option.some  FieldType.int) ∈ gtb := gtb_of (List.mem_of_getElem? (i := 1157) (by decide +kernel)) rfl
theorem gw_code_MO_saves : Cond.code yy_MO_saves bb_MO_saves 4 (Option.some  FieldType.int) ∈ gtb := gtb_of (List.mem_of_getElem? (i := 1161) (by decide +kernel)) rfl
theorem gw_code_MO_tears : Cond.code yy_MO_tears bb_MO_tears 9 (Option.some  FieldType.int) ∈ gtb := gtb_of (List.mem_of_getElem? (i := 1165) (by decide +kernel)) rfl
theorem gw_code_MO_fact : Cond.code yy_MO_fact bb_MO_fact 5 (Option.some  FieldType.int) ∈ gtb := gtb_of (List.mem_of_getElem? (i := 1169) (by decide +kernel)) rfl
theorem gw_code_MO_forget : Cond.code yy_MO_forget bb_MO_forget 2 (Option.some  FieldType.int) ∈ gtb := gtb_of (List.mem_of_getElem? (i := 1173) (by decide +kernel)) rfl
theorem gw_code_MO_likely : Cond.code yy_MO_likely bb_MO_likely 7 (Option.some  FieldType.int) ∈ gtb := gtb_of (List.mem_of_getElem? (i := 1177) (by decide +kernel)) rfl
theorem gw_code_MO_isLikely : Cond.code yy_MO_isLikely bb_MO_isLikely 8 (Option.some  FieldType.boolean) ∈ gtb := gtb_of (List.mem_of_getElem? (i := 1181) (by decide +kernel)) rfl
theorem gw_code_MO_odds : Cond.code yy_MO_odds bb_MO_odds 15 (Option.some  FieldType.int) ∈ gtb := gtb_of (List.mem_of_getElem? (i := 1185) (by decide +kernel)) rfl
theorem gw_code_MO_harm : Cond.code yy_MO_harm bb_MO_harm 5 (Option.some  FieldType.int) ∈ gtb := gtb_of (List.mem_of_getElem? (i := 1190) (by decide +kernel)) rfl
theorem gw_code_MO_part : Cond.code yy_MO_part bb_MO_part 2 (Option.some  FieldType.long) ∈ gtb := gtb_of (List.mem_of_getElem? (i := 1194) (by decide +kernel)) rfl
theorem gw_code_MO_image : Cond.code yy_MO_image bb_MO_image 2 (Option.some  FieldType.int) ∈ gtb := gtb_of (List.mem_of_getElem? (i := 1198) (by decide +kernel)) rfl
theorem gw_code_MO_from : Cond.code yy_MO_from bb_MO_from 2 (Option.some  FieldType.int) ∈ gtb := gtb_of (List.mem_of_getElem? (i := 1202) (by decide +kernel)) rfl
theorem gw_code_MO_status : Cond.code yy_MO_status bb_MO_status 2 (Option.some  FieldType.int) ∈ gtb := gtb_of (List.mem_of_getElem? (i := 1206) (by decide +kernel)) rfl
theorem gw_code_MO_count : Cond.code yy_MO_count bb_MO_count 2 (Option.some  FieldType.int) ∈ gtb := gtb_of (List.mem_of_getElem? (i := 1210) (by decide +kernel)) rfl
theorem gw_code_MO_digest : Cond.code yy_MO_digest bb_MO_digest 1 (Option.some  FieldType.long) ∈ gtb := gtb_of (List.mem_of_getElem? (i := 1214) (by decide +kernel)) rfl
theorem gw_code_MO_digestRow : Cond.code yy_MO_digestRow bb_MO_digestRow 4 (Option.none) ∈ gtb := gtb_of (List.mem_of_getElem? (i := 1219) (by decide +kernel)) rfl
theorem gw_sel_GG_refuseBad : Cond.selects RGG yy_GG_refuseBad yy_GG_refuseBad ∈ gtb := gtb_of (List.mem_of_getElem? (i := 0) (by decide +kernel)) rfl
theorem gw_sel_GG_refuseFull : Cond.selects RGG yy_GG_refuseFull yy_GG_refuseFull ∈ gtb := gtb_of (List.mem_of_getElem? (i := 1) (by decide +kernel)) rfl
theorem gw_sel_SH_renewGriefs : Cond.selects RSH yy_SH_renewGriefs yy_SH_renewGriefs ∈ gtb := gtb_of (List.mem_of_getElem? (i := 2) (by decide +kernel)) rfl
theorem gw_sel_SH_isFeastOf : Cond.selects RSH yy_SH_isFeastOf yy_SH_isFeastOf ∈ gtb := gtb_of (List.mem_of_getElem? (i := 3) (by decide +kernel)) rfl
theorem gw_sel_GG_refuseNo : Cond.selects RGG yy_GG_refuseNo yy_GG_refuseNo ∈ gtb := gtb_of (List.mem_of_getElem? (i := 4) (by decide +kernel)) rfl
theorem gw_sel_RE_nextToken : Cond.selects RRE yy_RE_nextToken yy_RE_nextToken ∈ gtb := gtb_of (List.mem_of_getElem? (i := 5) (by decide +kernel)) rfl
theorem gw_sel_RE_readLetters : Cond.selects RRE yy_RE_readLetters yy_RE_readLetters ∈ gtb := gtb_of (List.mem_of_getElem? (i := 6) (by decide +kernel)) rfl
theorem gw_sel_RE_readFigures : Cond.selects RRE yy_RE_readFigures yy_RE_readFigures ∈ gtb := gtb_of (List.mem_of_getElem? (i := 7) (by decide +kernel)) rfl
theorem gw_sel_RE_isWord : Cond.selects RRE yy_RE_isWord yy_RE_isWord ∈ gtb := gtb_of (List.mem_of_getElem? (i := 8) (by decide +kernel)) rfl
theorem gw_sel_RE_readMourner : Cond.selects RRE yy_RE_readMourner yy_RE_readMourner ∈ gtb := gtb_of (List.mem_of_getElem? (i := 9) (by decide +kernel)) rfl
theorem gw_sel_RE_wantRoom : Cond.selects RRE yy_RE_wantRoom yy_RE_wantRoom ∈ gtb := gtb_of (List.mem_of_getElem? (i := 10) (by decide +kernel)) rfl
theorem gw_sel_RE_blame : Cond.selects RRE yy_RE_blame yy_RE_blame ∈ gtb := gtb_of (List.mem_of_getElem? (i := 11) (by decide +kernel)) rfl
theorem gw_sel_RE_readNumber : Cond.selects RRE yy_RE_readNumber yy_RE_readNumber ∈ gtb := gtb_of (List.mem_of_getElem? (i := 12) (by decide +kernel)) rfl
theorem gw_sel_RE_wantNumber : Cond.selects RRE yy_RE_wantNumber yy_RE_wantNumber ∈ gtb := gtb_of (List.mem_of_getElem? (i := 13) (by decide +kernel)) rfl
theorem gw_sel_RE_readStop : Cond.selects RRE yy_RE_readStop yy_RE_readStop ∈ gtb := gtb_of (List.mem_of_getElem? (i := 14) (by decide +kernel)) rfl
theorem gw_sel_RE_wantStop : Cond.selects RRE yy_RE_wantStop yy_RE_wantStop ∈ gtb := gtb_of (List.mem_of_getElem? (i := 15) (by decide +kernel)) rfl
theorem gw_sel_RE_readJoint : Cond.selects RRE yy_RE_readJoint yy_RE_readJoint ∈ gtb := gtb_of (List.mem_of_getElem? (i := 16) (by decide +kernel)) rfl
theorem gw_sel_RE_readPiece : Cond.selects RRE yy_RE_readPiece yy_RE_readPiece ∈ gtb := gtb_of (List.mem_of_getElem? (i := 17) (by decide +kernel)) rfl
theorem gw_sel_RE_readFeast : Cond.selects RRE yy_RE_readFeast yy_RE_readFeast ∈ gtb := gtb_of (List.mem_of_getElem? (i := 18) (by decide +kernel)) rfl
theorem gw_sel_RE_readDay : Cond.selects RRE yy_RE_readDay yy_RE_readDay ∈ gtb := gtb_of (List.mem_of_getElem? (i := 19) (by decide +kernel)) rfl
theorem gw_sel_RE_readBoil : Cond.selects RRE yy_RE_readBoil yy_RE_readBoil ∈ gtb := gtb_of (List.mem_of_getElem? (i := 20) (by decide +kernel)) rfl
theorem gw_sel_HI_lookForNeeds : Cond.selects RHI yy_HI_lookForNeeds yy_HI_lookForNeeds ∈ gtb := gtb_of (List.mem_of_getElem? (i := 21) (by decide +kernel)) rfl
theorem gw_sel_HI_fitsOf : Cond.selects RHI yy_HI_fitsOf yy_HI_fitsOf ∈ gtb := gtb_of (List.mem_of_getElem? (i := 22) (by decide +kernel)) rfl
theorem gw_sel_HI_isEnough : Cond.selects RHI yy_HI_isEnough yy_HI_isEnough ∈ gtb := gtb_of (List.mem_of_getElem? (i := 23) (by decide +kernel)) rfl
theorem gw_sel_OU_weepADay : Cond.selects ROU yy_OU_weepADay yy_OU_weepADay ∈ gtb := gtb_of (List.mem_of_getElem? (i := 24) (by decide +kernel)) rfl
theorem gw_sel_OU_isByFacts : Cond.selects ROU yy_OU_isByFacts yy_OU_isByFacts ∈ gtb := gtb_of (List.mem_of_getElem? (i := 25) (by decide +kernel)) rfl
theorem gw_sel_OU_weddingADay : Cond.selects ROU yy_OU_weddingADay yy_OU_weddingADay ∈ gtb := gtb_of (List.mem_of_getElem? (i := 26) (by decide +kernel)) rfl
theorem gw_sel_OU_griefsWithout : Cond.selects ROU yy_OU_griefsWithout yy_OU_griefsWithout ∈ gtb := gtb_of (List.mem_of_getElem? (i := 27) (by decide +kernel)) rfl
theorem gw_sel_GG_countOf : Cond.selects RGG yy_GG_countOf yy_GG_countOf ∈ gtb := gtb_of (List.mem_of_getElem? (i := 28) (by decide +kernel)) rfl
theorem gw_sel_MO_bad : Cond.selects RMO yy_MO_bad yy_MO_bad ∈ gtb := gtb_of (List.mem_of_getElem? (i := 29) (by decide +kernel)) rfl
theorem gw_sel_MO_get : Cond.selects RMO yy_MO_get yy_MO_get ∈ gtb := gtb_of (List.mem_of_getElem? (i := 30) (by decide +kernel)) rfl
theorem gw_sel_MO_full : Cond.selects RMO yy_MO_full yy_MO_full ∈ gtb := gtb_of (List.mem_of_getElem? (i := 31) (by decide +kernel)) rfl
theorem gw_sel_MO_addMourner : Cond.selects RMO yy_MO_addMourner yy_MO_addMourner ∈ gtb := gtb_of (List.mem_of_getElem? (i := 32) (by decide +kernel)) rfl
theorem gw_sel_MO_set : Cond.selects RMO yy_MO_set yy_MO_set ∈ gtb := gtb_of (List.mem_of_getElem? (i := 33) (by decide +kernel)) rfl
theorem gw_sel_MO_addJoint : Cond.selects RMO yy_MO_addJoint yy_MO_addJoint ∈ gtb := gtb_of (List.mem_of_getElem? (i := 34) (by decide +kernel)) rfl
theorem gw_sel_MO_isSet : Cond.selects RMO yy_MO_isSet yy_MO_isSet ∈ gtb := gtb_of (List.mem_of_getElem? (i := 35) (by decide +kernel)) rfl
theorem gw_sel_MO_addPiece : Cond.selects RMO yy_MO_addPiece yy_MO_addPiece ∈ gtb := gtb_of (List.mem_of_getElem? (i := 36) (by decide +kernel)) rfl
theorem gw_sel_MO_isMourner : Cond.selects RMO yy_MO_isMourner yy_MO_isMourner ∈ gtb := gtb_of (List.mem_of_getElem? (i := 37) (by decide +kernel)) rfl
theorem gw_sel_MO_addFeast : Cond.selects RMO yy_MO_addFeast yy_MO_addFeast ∈ gtb := gtb_of (List.mem_of_getElem? (i := 38) (by decide +kernel)) rfl
theorem gw_sel_MO_no : Cond.selects RMO yy_MO_no yy_MO_no ∈ gtb := gtb_of (List.mem_of_getElem? (i := 39) (by decide +kernel)) rfl
theorem gw_sel_MO_isJoint : Cond.selects RMO yy_MO_isJoint yy_MO_isJoint ∈ gtb := gtb_of (List.mem_of_getElem? (i := 40) (by decide +kernel)) rfl
theorem gw_sel_MO_know : Cond.selects RMO yy_MO_know yy_MO_know ∈ gtb := gtb_of (List.mem_of_getElem? (i := 41) (by decide +kernel)) rfl
theorem gw_sel_MO_boiled : Cond.selects RMO yy_MO_boiled yy_MO_boiled ∈ gtb := gtb_of (List.mem_of_getElem? (i := 42) (by decide +kernel)) rfl
theorem gw_sel_MO_opensOn : Cond.selects RMO yy_MO_opensOn yy_MO_opensOn ∈ gtb := gtb_of (List.mem_of_getElem? (i := 43) (by decide +kernel)) rfl
theorem gw_sel_MO_findGriefs : Cond.selects RMO yy_MO_findGriefs yy_MO_findGriefs ∈ gtb := gtb_of (List.mem_of_getElem? (i := 44) (by decide +kernel)) rfl
theorem gw_sel_MO_onDay : Cond.selects RMO yy_MO_onDay yy_MO_onDay ∈ gtb := gtb_of (List.mem_of_getElem? (i := 45) (by decide +kernel)) rfl
theorem gw_sel_MO_opensBy : Cond.selects RMO yy_MO_opensBy yy_MO_opensBy ∈ gtb := gtb_of (List.mem_of_getElem? (i := 46) (by decide +kernel)) rfl
theorem gw_sel_MO_strength : Cond.selects RMO yy_MO_strength yy_MO_strength ∈ gtb := gtb_of (List.mem_of_getElem? (i := 47) (by decide +kernel)) rfl
theorem gw_sel_MO_openNow : Cond.selects RMO yy_MO_openNow yy_MO_openNow ∈ gtb := gtb_of (List.mem_of_getElem? (i := 48) (by decide +kernel)) rfl
theorem gw_sel_MO_isBoiled : Cond.selects RMO yy_MO_isBoiled yy_MO_isBoiled ∈ gtb := gtb_of (List.mem_of_getElem? (i := 49) (by decide +kernel)) rfl
theorem gw_sel_MO_next : Cond.selects RMO yy_MO_next yy_MO_next ∈ gtb := gtb_of (List.mem_of_getElem? (i := 50) (by decide +kernel)) rfl
theorem gw_sel_MO_here : Cond.selects RMO yy_MO_here yy_MO_here ∈ gtb := gtb_of (List.mem_of_getElem? (i := 51) (by decide +kernel)) rfl
theorem gw_sel_MO_readItem : Cond.selects RMO yy_MO_readItem yy_MO_readItem ∈ gtb := gtb_of (List.mem_of_getElem? (i := 52) (by decide +kernel)) rfl
theorem gw_sel_MO_mayBe : Cond.selects RMO yy_MO_mayBe yy_MO_mayBe ∈ gtb := gtb_of (List.mem_of_getElem? (i := 53) (by decide +kernel)) rfl
theorem gw_sel_MO_due : Cond.selects RMO yy_MO_due yy_MO_due ∈ gtb := gtb_of (List.mem_of_getElem? (i := 54) (by decide +kernel)) rfl
theorem gw_sel_MO_isNumber : Cond.selects RMO yy_MO_isNumber yy_MO_isNumber ∈ gtb := gtb_of (List.mem_of_getElem? (i := 55) (by decide +kernel)) rfl
theorem gw_sel_MO_readBoil : Cond.selects RMO yy_MO_readBoil yy_MO_readBoil ∈ gtb := gtb_of (List.mem_of_getElem? (i := 56) (by decide +kernel)) rfl
theorem gw_sel_MO_readRow : Cond.selects RMO yy_MO_readRow yy_MO_readRow ∈ gtb := gtb_of (List.mem_of_getElem? (i := 57) (by decide +kernel)) rfl
theorem gw_sel_MO_copy : Cond.selects RMO yy_MO_copy yy_MO_copy ∈ gtb := gtb_of (List.mem_of_getElem? (i := 58) (by decide +kernel)) rfl
theorem gw_sel_MO_isLasting : Cond.selects RMO yy_MO_isLasting yy_MO_isLasting ∈ gtb := gtb_of (List.mem_of_getElem? (i := 59) (by decide +kernel)) rfl
theorem gw_sel_MO_findNeeds : Cond.selects RMO yy_MO_findNeeds yy_MO_findNeeds ∈ gtb := gtb_of (List.mem_of_getElem? (i := 60) (by decide +kernel)) rfl
theorem gw_sel_MO_hired : Cond.selects RMO yy_MO_hired yy_MO_hired ∈ gtb := gtb_of (List.mem_of_getElem? (i := 61) (by decide +kernel)) rfl
theorem gw_sel_MO_priceOf : Cond.selects RMO yy_MO_priceOf yy_MO_priceOf ∈ gtb := gtb_of (List.mem_of_getElem? (i := 62) (by decide +kernel)) rfl
theorem gw_sel_MO_whoOf : Cond.selects RMO yy_MO_whoOf yy_MO_whoOf ∈ gtb := gtb_of (List.mem_of_getElem? (i := 63) (by decide +kernel)) rfl
theorem gw_sel_MO_wouldHold : Cond.selects RMO yy_MO_wouldHold yy_MO_wouldHold ∈ gtb := gtb_of (List.mem_of_getElem? (i := 64) (by decide +kernel)) rfl
theorem gw_sel_MO_isLikely : Cond.selects RMO yy_MO_isLikely yy_MO_isLikely ∈ gtb := gtb_of (List.mem_of_getElem? (i := 65) (by decide +kernel)) rfl
theorem gw_sel_MO_digestRow : Cond.selects RMO yy_MO_digestRow yy_MO_digestRow ∈ gtb := gtb_of (List.mem_of_getElem? (i := 66) (by decide +kernel)) rfl
theorem gw_ini_LA : Cond.initialized RLA ∈ gtb := gtb_of (List.mem_of_getElem? (i := 67) (by decide +kernel)) rfl
theorem gw_ini_GG : Cond.initialized RGG ∈ gtb := gtb_of (List.mem_of_getElem? (i := 68) (by decide +kernel)) rfl
theorem gw_ini_SH : Cond.initialized RSH ∈ gtb := gtb_of (List.mem_of_getElem? (i := 69) (by decide +kernel)) rfl
theorem gw_ini_LE : Cond.initialized RLE ∈ gtb := gtb_of (List.mem_of_getElem? (i := 70) (by decide +kernel)) rfl
theorem gw_ini_MA : Cond.initialized RMA ∈ gtb := gtb_of (List.mem_of_getElem? (i := 71) (by decide +kernel)) rfl
theorem gw_ini_AR : Cond.initialized RAR ∈ gtb := gtb_of (List.mem_of_getElem? (i := 72) (by decide +kernel)) rfl
theorem gw_ini_RE : Cond.initialized RRE ∈ gtb := gtb_of (List.mem_of_getElem? (i := 73) (by decide +kernel)) rfl
theorem gw_ini_HI : Cond.initialized RHI ∈ gtb := gtb_of (List.mem_of_getElem? (i := 74) (by decide +kernel)) rfl
theorem gw_ini_OU : Cond.initialized ROU ∈ gtb := gtb_of (List.mem_of_getElem? (i := 75) (by decide +kernel)) rfl
theorem gw_ini_MO : Cond.initialized RMO ∈ gtb := gtb_of (List.mem_of_getElem? (i := 76) (by decide +kernel)) rfl
theorem gw_ini_KI : Cond.initialized RKI ∈ gtb := gtb_of (List.mem_of_getElem? (i := 77) (by decide +kernel)) rfl
theorem gw_ini_SY : Cond.initialized RSY ∈ gtb := gtb_of (List.mem_of_getElem? (i := 78) (by decide +kernel)) rfl
theorem gw_ini_IN : Cond.initialized RIN ∈ gtb := gtb_of (List.mem_of_getElem? (i := 79) (by decide +kernel)) rfl
theorem gw_ini_ST : Cond.initialized RST ∈ gtb := gtb_of (List.mem_of_getElem? (i := 80) (by decide +kernel)) rfl
theorem gw_ini_SL : Cond.initialized RSL ∈ gtb := gtb_of (List.mem_of_getElem? (i := 81) (by decide +kernel)) rfl
theorem gw_ini_PR : Cond.initialized RPR ∈ gtb := gtb_of (List.mem_of_getElem? (i := 82) (by decide +kernel)) rfl
theorem gw_ini_SU : Cond.initialized RSU ∈ gtb := gtb_of (List.mem_of_getElem? (i := 83) (by decide +kernel)) rfl
theorem gw_inst_GG_init : Cond.instanceMethod yy_GG_init ∈ gtb := gtb_of (List.mem_of_getElem? (i := 87) (by decide +kernel)) rfl
theorem gw_inst_SH_init : Cond.instanceMethod yy_SH_init ∈ gtb := gtb_of (List.mem_of_getElem? (i := 95) (by decide +kernel)) rfl
theorem gw_inst_LE_init : Cond.instanceMethod yy_LE_init ∈ gtb := gtb_of (List.mem_of_getElem? (i := 101) (by decide +kernel)) rfl
theorem gw_static_MA_max : Cond.static yy_MA_max ∈ gtb := gtb_of (List.mem_of_getElem? (i := 105) (by decide +kernel)) rfl
theorem gw_static_AR_fillI : Cond.static yy_AR_fillI ∈ gtb := gtb_of (List.mem_of_getElem? (i := 129) (by decide +kernel)) rfl
theorem gw_inst_RE_init : Cond.instanceMethod yy_RE_init ∈ gtb := gtb_of (List.mem_of_getElem? (i := 185) (by decide +kernel)) rfl
theorem gw_inst_HI_init : Cond.instanceMethod yy_HI_init ∈ gtb := gtb_of (List.mem_of_getElem? (i := 222) (by decide +kernel)) rfl
theorem gw_inst_OU_init : Cond.instanceMethod yy_OU_init ∈ gtb := gtb_of (List.mem_of_getElem? (i := 242) (by decide +kernel)) rfl
theorem gw_inst_GG_mourner : Cond.instanceMethod yy_GG_mourner ∈ gtb := gtb_of (List.mem_of_getElem? (i := 299) (by decide +kernel)) rfl
theorem gw_sel_GG_mourner : Cond.selects RGG yy_GG_mourner yy_GG_mourner ∈ gtb := gtb_of (List.mem_of_getElem? (i := 300) (by decide +kernel)) rfl
theorem gw_static_GG_isWithin : Cond.static yy_GG_isWithin ∈ gtb := gtb_of (List.mem_of_getElem? (i := 303) (by decide +kernel)) rfl
theorem gw_inst_GG_refuseBad : Cond.instanceMethod yy_GG_refuseBad ∈ gtb := gtb_of (List.mem_of_getElem? (i := 307) (by decide +kernel)) rfl
theorem gw_inst_LE_isFull : Cond.instanceMethod yy_LE_isFull ∈ gtb := gtb_of (List.mem_of_getElem? (i := 310) (by decide +kernel)) rfl
theorem gw_sel_LE_isFull : Cond.selects RLE yy_LE_isFull yy_LE_isFull ∈ gtb := gtb_of (List.mem_of_getElem? (i := 311) (by decide +kernel)) rfl
theorem gw_inst_GG_refuseFull : Cond.instanceMethod yy_GG_refuseFull ∈ gtb := gtb_of (List.mem_of_getElem? (i := 315) (by decide +kernel)) rfl
theorem gw_inst_SH_addMourner : Cond.instanceMethod yy_SH_addMourner ∈ gtb := gtb_of (List.mem_of_getElem? (i := 318) (by decide +kernel)) rfl
theorem gw_sel_SH_addMourner : Cond.selects RSH yy_SH_addMourner yy_SH_addMourner ∈ gtb := gtb_of (List.mem_of_getElem? (i := 319) (by decide +kernel)) rfl
theorem gw_inst_LE_add : Cond.instanceMethod yy_LE_add ∈ gtb := gtb_of (List.mem_of_getElem? (i := 322) (by decide +kernel)) rfl
theorem gw_sel_LE_add : Cond.selects RLE yy_LE_add yy_LE_add ∈ gtb := gtb_of (List.mem_of_getElem? (i := 323) (by decide +kernel)) rfl
theorem gw_inst_SH_renewGriefs : Cond.instanceMethod yy_SH_renewGriefs ∈ gtb := gtb_of (List.mem_of_getElem? (i := 328) (by decide +kernel)) rfl
theorem gw_inst_LE_has : Cond.instanceMethod yy_LE_has ∈ gtb := gtb_of (List.mem_of_getElem? (i := 331) (by decide +kernel)) rfl
theorem gw_sel_LE_has : Cond.selects RLE yy_LE_has yy_LE_has ∈ gtb := gtb_of (List.mem_of_getElem? (i := 332) (by decide +kernel)) rfl
theorem gw_inst_SH_fillGriefs : Cond.instanceMethod yy_SH_fillGriefs ∈ gtb := gtb_of (List.mem_of_getElem? (i := 335) (by decide +kernel)) rfl
theorem gw_sel_SH_fillGriefs : Cond.selects RSH yy_SH_fillGriefs yy_SH_fillGriefs ∈ gtb := gtb_of (List.mem_of_getElem? (i := 336) (by decide +kernel)) rfl
theorem gw_inst_LE_at : Cond.instanceMethod yy_LE_at ∈ gtb := gtb_of (List.mem_of_getElem? (i := 339) (by decide +kernel)) rfl
theorem gw_sel_LE_at : Cond.selects RLE yy_LE_at yy_LE_at ∈ gtb := gtb_of (List.mem_of_getElem? (i := 340) (by decide +kernel)) rfl
theorem gw_static_KI_stepOf : Cond.static yy_KI_stepOf ∈ gtb := gtb_of (List.mem_of_getElem? (i := 344) (by decide +kernel)) rfl
theorem gw_static_KI_widowStep : Cond.static yy_KI_widowStep ∈ gtb := gtb_of (List.mem_of_getElem? (i := 347) (by decide +kernel)) rfl
theorem gw_static_KI_mournerStep : Cond.static yy_KI_mournerStep ∈ gtb := gtb_of (List.mem_of_getElem? (i := 350) (by decide +kernel)) rfl
theorem gw_static_KI_heirStep : Cond.static yy_KI_heirStep ∈ gtb := gtb_of (List.mem_of_getElem? (i := 353) (by decide +kernel)) rfl
theorem gw_inst_SH_isFeastOf : Cond.instanceMethod yy_SH_isFeastOf ∈ gtb := gtb_of (List.mem_of_getElem? (i := 357) (by decide +kernel)) rfl
theorem gw_static_KI_feastOf : Cond.static yy_KI_feastOf ∈ gtb := gtb_of (List.mem_of_getElem? (i := 360) (by decide +kernel)) rfl
theorem gw_static_MA_min : Cond.static yy_MA_min ∈ gtb := gtb_of (List.mem_of_getElem? (i := 363) (by decide +kernel)) rfl
theorem gw_inst_GG_joint : Cond.instanceMethod yy_GG_joint ∈ gtb := gtb_of (List.mem_of_getElem? (i := 366) (by decide +kernel)) rfl
theorem gw_sel_GG_joint : Cond.selects RGG yy_GG_joint yy_GG_joint ∈ gtb := gtb_of (List.mem_of_getElem? (i := 367) (by decide +kernel)) rfl
theorem gw_inst_GG_piece : Cond.instanceMethod yy_GG_piece ∈ gtb := gtb_of (List.mem_of_getElem? (i := 371) (by decide +kernel)) rfl
theorem gw_sel_GG_piece : Cond.selects RGG yy_GG_piece yy_GG_piece ∈ gtb := gtb_of (List.mem_of_getElem? (i := 372) (by decide +kernel)) rfl
theorem gw_inst_SH_allJoints : Cond.instanceMethod yy_SH_allJoints ∈ gtb := gtb_of (List.mem_of_getElem? (i := 375) (by decide +kernel)) rfl
theorem gw_sel_SH_allJoints : Cond.selects RSH yy_SH_allJoints yy_SH_allJoints ∈ gtb := gtb_of (List.mem_of_getElem? (i := 376) (by decide +kernel)) rfl
theorem gw_inst_GG_feast : Cond.instanceMethod yy_GG_feast ∈ gtb := gtb_of (List.mem_of_getElem? (i := 379) (by decide +kernel)) rfl
theorem gw_sel_GG_feast : Cond.selects RGG yy_GG_feast yy_GG_feast ∈ gtb := gtb_of (List.mem_of_getElem? (i := 380) (by decide +kernel)) rfl
theorem gw_inst_SH_addFeast : Cond.instanceMethod yy_SH_addFeast ∈ gtb := gtb_of (List.mem_of_getElem? (i := 384) (by decide +kernel)) rfl
theorem gw_sel_SH_addFeast : Cond.selects RSH yy_SH_addFeast yy_SH_addFeast ∈ gtb := gtb_of (List.mem_of_getElem? (i := 385) (by decide +kernel)) rfl
theorem gw_inst_GG_skip : Cond.instanceMethod yy_GG_skip ∈ gtb := gtb_of (List.mem_of_getElem? (i := 388) (by decide +kernel)) rfl
theorem gw_sel_GG_skip : Cond.selects RGG yy_GG_skip yy_GG_skip ∈ gtb := gtb_of (List.mem_of_getElem? (i := 389) (by decide +kernel)) rfl
theorem gw_inst_GG_refuseNo : Cond.instanceMethod yy_GG_refuseNo ∈ gtb := gtb_of (List.mem_of_getElem? (i := 393) (by decide +kernel)) rfl
theorem gw_inst_SH_dropFeast : Cond.instanceMethod yy_SH_dropFeast ∈ gtb := gtb_of (List.mem_of_getElem? (i := 396) (by decide +kernel)) rfl
theorem gw_sel_SH_dropFeast : Cond.selects RSH yy_SH_dropFeast yy_SH_dropFeast ∈ gtb := gtb_of (List.mem_of_getElem? (i := 397) (by decide +kernel)) rfl
theorem gw_inst_LE_dropLast : Cond.instanceMethod yy_LE_dropLast ∈ gtb := gtb_of (List.mem_of_getElem? (i := 400) (by decide +kernel)) rfl
theorem gw_sel_LE_dropLast : Cond.selects RLE yy_LE_dropLast yy_LE_dropLast ∈ gtb := gtb_of (List.mem_of_getElem? (i := 401) (by decide +kernel)) rfl
theorem gw_inst_GG_boil : Cond.instanceMethod yy_GG_boil ∈ gtb := gtb_of (List.mem_of_getElem? (i := 404) (by decide +kernel)) rfl
theorem gw_sel_GG_boil : Cond.selects RGG yy_GG_boil yy_GG_boil ∈ gtb := gtb_of (List.mem_of_getElem? (i := 405) (by decide +kernel)) rfl
theorem gw_inst_SH_keepPast : Cond.instanceMethod yy_SH_keepPast ∈ gtb := gtb_of (List.mem_of_getElem? (i := 408) (by decide +kernel)) rfl
theorem gw_sel_SH_keepPast : Cond.selects RSH yy_SH_keepPast yy_SH_keepPast ∈ gtb := gtb_of (List.mem_of_getElem? (i := 409) (by decide +kernel)) rfl
theorem gw_static_SY_arraycopy : Cond.static arraycopyName ∈ gtb := gtb_of (List.mem_of_getElem? (i := 412) (by decide +kernel)) rfl
theorem gw_native : Cond.native arraycopyName ∈ gtb := gtb_of (List.mem_of_getElem? (i := 413) (by decide +kernel)) rfl
theorem gw_inst_SH_boilNow : Cond.instanceMethod yy_SH_boilNow ∈ gtb := gtb_of (List.mem_of_getElem? (i := 415) (by decide +kernel)) rfl
theorem gw_sel_SH_boilNow : Cond.selects RSH yy_SH_boilNow yy_SH_boilNow ∈ gtb := gtb_of (List.mem_of_getElem? (i := 416) (by decide +kernel)) rfl
theorem gw_inst_SH_openingOf : Cond.instanceMethod yy_SH_openingOf ∈ gtb := gtb_of (List.mem_of_getElem? (i := 419) (by decide +kernel)) rfl
theorem gw_sel_SH_openingOf : Cond.selects RSH yy_SH_openingOf yy_SH_openingOf ∈ gtb := gtb_of (List.mem_of_getElem? (i := 420) (by decide +kernel)) rfl
theorem gw_inst_SH_boiledOn : Cond.instanceMethod yy_SH_boiledOn ∈ gtb := gtb_of (List.mem_of_getElem? (i := 423) (by decide +kernel)) rfl
theorem gw_sel_SH_boiledOn : Cond.selects RSH yy_SH_boiledOn yy_SH_boiledOn ∈ gtb := gtb_of (List.mem_of_getElem? (i := 424) (by decide +kernel)) rfl
theorem gw_inst_SH_firstBoiler : Cond.instanceMethod yy_SH_firstBoiler ∈ gtb := gtb_of (List.mem_of_getElem? (i := 427) (by decide +kernel)) rfl
theorem gw_sel_SH_firstBoiler : Cond.selects RSH yy_SH_firstBoiler yy_SH_firstBoiler ∈ gtb := gtb_of (List.mem_of_getElem? (i := 428) (by decide +kernel)) rfl
theorem gw_inst_SH_griefsOf : Cond.instanceMethod yy_SH_griefsOf ∈ gtb := gtb_of (List.mem_of_getElem? (i := 431) (by decide +kernel)) rfl
theorem gw_sel_SH_griefsOf : Cond.selects RSH yy_SH_griefsOf yy_SH_griefsOf ∈ gtb := gtb_of (List.mem_of_getElem? (i := 432) (by decide +kernel)) rfl
theorem gw_inst_SH_secondBoiler : Cond.instanceMethod yy_SH_secondBoiler ∈ gtb := gtb_of (List.mem_of_getElem? (i := 435) (by decide +kernel)) rfl
theorem gw_sel_SH_secondBoiler : Cond.selects RSH yy_SH_secondBoiler yy_SH_secondBoiler ∈ gtb := gtb_of (List.mem_of_getElem? (i := 436) (by decide +kernel)) rfl
theorem gw_static_SH_firstWeakDay : Cond.static yy_SH_firstWeakDay ∈ gtb := gtb_of (List.mem_of_getElem? (i := 439) (by decide +kernel)) rfl
theorem gw_inst_GG_day : Cond.instanceMethod yy_GG_day ∈ gtb := gtb_of (List.mem_of_getElem? (i := 443) (by decide +kernel)) rfl
theorem gw_sel_GG_day : Cond.selects RGG yy_GG_day yy_GG_day ∈ gtb := gtb_of (List.mem_of_getElem? (i := 444) (by decide +kernel)) rfl
theorem gw_inst_SH_openJoints : Cond.instanceMethod yy_SH_openJoints ∈ gtb := gtb_of (List.mem_of_getElem? (i := 447) (by decide +kernel)) rfl
theorem gw_sel_SH_openJoints : Cond.selects RSH yy_SH_openJoints yy_SH_openJoints ∈ gtb := gtb_of (List.mem_of_getElem? (i := 448) (by decide +kernel)) rfl
theorem gw_static_IN_bitCount : Cond.static yy_IN_bitCount ∈ gtb := gtb_of (List.mem_of_getElem? (i := 452) (by decide +kernel)) rfl
theorem gw_inst_GG_undo : Cond.instanceMethod yy_GG_undo ∈ gtb := gtb_of (List.mem_of_getElem? (i := 458) (by decide +kernel)) rfl
theorem gw_sel_GG_undo : Cond.selects RGG yy_GG_undo yy_GG_undo ∈ gtb := gtb_of (List.mem_of_getElem? (i := 459) (by decide +kernel)) rfl
theorem gw_inst_SH_goBack : Cond.instanceMethod yy_SH_goBack ∈ gtb := gtb_of (List.mem_of_getElem? (i := 462) (by decide +kernel)) rfl
theorem gw_sel_SH_goBack : Cond.selects RSH yy_SH_goBack yy_SH_goBack ∈ gtb := gtb_of (List.mem_of_getElem? (i := 463) (by decide +kernel)) rfl
theorem gw_inst_GG_type : Cond.instanceMethod yy_GG_type ∈ gtb := gtb_of (List.mem_of_getElem? (i := 466) (by decide +kernel)) rfl
theorem gw_sel_GG_type : Cond.selects RGG yy_GG_type yy_GG_type ∈ gtb := gtb_of (List.mem_of_getElem? (i := 467) (by decide +kernel)) rfl
theorem gw_inst_RE_addByte : Cond.instanceMethod yy_RE_addByte ∈ gtb := gtb_of (List.mem_of_getElem? (i := 470) (by decide +kernel)) rfl
theorem gw_sel_RE_addByte : Cond.selects RRE yy_RE_addByte yy_RE_addByte ∈ gtb := gtb_of (List.mem_of_getElem? (i := 471) (by decide +kernel)) rfl
theorem gw_inst_GG_clear : Cond.instanceMethod yy_GG_clear ∈ gtb := gtb_of (List.mem_of_getElem? (i := 474) (by decide +kernel)) rfl
theorem gw_sel_GG_clear : Cond.selects RGG yy_GG_clear yy_GG_clear ∈ gtb := gtb_of (List.mem_of_getElem? (i := 475) (by decide +kernel)) rfl
theorem gw_inst_GG_read : Cond.instanceMethod yy_GG_read ∈ gtb := gtb_of (List.mem_of_getElem? (i := 478) (by decide +kernel)) rfl
theorem gw_sel_GG_read : Cond.selects RGG yy_GG_read yy_GG_read ∈ gtb := gtb_of (List.mem_of_getElem? (i := 479) (by decide +kernel)) rfl
theorem gw_inst_RE_readItems : Cond.instanceMethod yy_RE_readItems ∈ gtb := gtb_of (List.mem_of_getElem? (i := 482) (by decide +kernel)) rfl
theorem gw_sel_RE_readItems : Cond.selects RRE yy_RE_readItems yy_RE_readItems ∈ gtb := gtb_of (List.mem_of_getElem? (i := 483) (by decide +kernel)) rfl
theorem gw_inst_SH_makeEmpty : Cond.instanceMethod yy_SH_makeEmpty ∈ gtb := gtb_of (List.mem_of_getElem? (i := 486) (by decide +kernel)) rfl
theorem gw_sel_SH_makeEmpty : Cond.selects RSH yy_SH_makeEmpty yy_SH_makeEmpty ∈ gtb := gtb_of (List.mem_of_getElem? (i := 487) (by decide +kernel)) rfl
theorem gw_inst_RE_nextToken : Cond.instanceMethod yy_RE_nextToken ∈ gtb := gtb_of (List.mem_of_getElem? (i := 491) (by decide +kernel)) rfl
theorem gw_static_RE_isLetter : Cond.static yy_RE_isLetter ∈ gtb := gtb_of (List.mem_of_getElem? (i := 494) (by decide +kernel)) rfl
theorem gw_inst_RE_readLetters : Cond.instanceMethod yy_RE_readLetters ∈ gtb := gtb_of (List.mem_of_getElem? (i := 498) (by decide +kernel)) rfl
theorem gw_static_RE_isFigure : Cond.static yy_RE_isFigure ∈ gtb := gtb_of (List.mem_of_getElem? (i := 501) (by decide +kernel)) rfl
theorem gw_inst_RE_readFigures : Cond.instanceMethod yy_RE_readFigures ∈ gtb := gtb_of (List.mem_of_getElem? (i := 505) (by decide +kernel)) rfl
theorem gw_inst_RE_isWord : Cond.instanceMethod yy_RE_isWord ∈ gtb := gtb_of (List.mem_of_getElem? (i := 510) (by decide +kernel)) rfl
theorem gw_inst_ST_length : Cond.instanceMethod yy_ST_length ∈ gtb := gtb_of (List.mem_of_getElem? (i := 513) (by decide +kernel)) rfl
theorem gw_sel_ST_length : Cond.selects RST yy_ST_length yy_ST_length ∈ gtb := gtb_of (List.mem_of_getElem? (i := 514) (by decide +kernel)) rfl
theorem gw_inst_ST_coder : Cond.instanceMethod yy_ST_coder ∈ gtb := gtb_of (List.mem_of_getElem? (i := 517) (by decide +kernel)) rfl
theorem gw_sel_ST_coder : Cond.selects RST yy_ST_coder yy_ST_coder ∈ gtb := gtb_of (List.mem_of_getElem? (i := 518) (by decide +kernel)) rfl
theorem gw_inst_ST_charAt : Cond.instanceMethod yy_ST_charAt ∈ gtb := gtb_of (List.mem_of_getElem? (i := 523) (by decide +kernel)) rfl
theorem gw_sel_ST_charAt : Cond.selects RST yy_ST_charAt yy_ST_charAt ∈ gtb := gtb_of (List.mem_of_getElem? (i := 524) (by decide +kernel)) rfl
theorem gw_inst_ST_isLatin1 : Cond.instanceMethod yy_ST_isLatin1 ∈ gtb := gtb_of (List.mem_of_getElem? (i := 527) (by decide +kernel)) rfl
theorem gw_sel_ST_isLatin1 : Cond.selects RST yy_ST_isLatin1 yy_ST_isLatin1 ∈ gtb := gtb_of (List.mem_of_getElem? (i := 528) (by decide +kernel)) rfl
theorem gw_static_SL_charAt : Cond.static yy_SL_charAt ∈ gtb := gtb_of (List.mem_of_getElem? (i := 531) (by decide +kernel)) rfl
theorem gw_static_ST_checkIndex : Cond.static yy_ST_checkIndex ∈ gtb := gtb_of (List.mem_of_getElem? (i := 534) (by decide +kernel)) rfl
theorem gw_static_PR_checkIndex : Cond.static yy_PR_checkIndex ∈ gtb := gtb_of (List.mem_of_getElem? (i := 539) (by decide +kernel)) rfl
theorem gw_static_SU_charAt : Cond.static yy_SU_charAt ∈ gtb := gtb_of (List.mem_of_getElem? (i := 542) (by decide +kernel)) rfl
theorem gw_static_SU_checkIndex : Cond.static yy_SU_checkIndex ∈ gtb := gtb_of (List.mem_of_getElem? (i := 545) (by decide +kernel)) rfl
theorem gw_static_SU_length : Cond.static yy_SU_length ∈ gtb := gtb_of (List.mem_of_getElem? (i := 548) (by decide +kernel)) rfl
theorem gw_static_SU_getChar : Cond.static yy_SU_getChar ∈ gtb := gtb_of (List.mem_of_getElem? (i := 552) (by decide +kernel)) rfl
theorem gw_inst_RE_readMourner : Cond.instanceMethod yy_RE_readMourner ∈ gtb := gtb_of (List.mem_of_getElem? (i := 562) (by decide +kernel)) rfl
theorem gw_inst_RE_wantRoom : Cond.instanceMethod yy_RE_wantRoom ∈ gtb := gtb_of (List.mem_of_getElem? (i := 566) (by decide +kernel)) rfl
theorem gw_inst_RE_blame : Cond.instanceMethod yy_RE_blame ∈ gtb := gtb_of (List.mem_of_getElem? (i := 571) (by decide +kernel)) rfl
theorem gw_inst_RE_readNumber : Cond.instanceMethod yy_RE_readNumber ∈ gtb := gtb_of (List.mem_of_getElem? (i := 575) (by decide +kernel)) rfl
theorem gw_inst_RE_wantNumber : Cond.instanceMethod yy_RE_wantNumber ∈ gtb := gtb_of (List.mem_of_getElem? (i := 579) (by decide +kernel)) rfl
theorem gw_inst_RE_readStop : Cond.instanceMethod yy_RE_readStop ∈ gtb := gtb_of (List.mem_of_getElem? (i := 584) (by decide +kernel)) rfl
theorem gw_inst_RE_wantStop : Cond.instanceMethod yy_RE_wantStop ∈ gtb := gtb_of (List.mem_of_getElem? (i := 588) (by decide +kernel)) rfl
theorem gw_inst_RE_readJoint : Cond.instanceMethod yy_RE_readJoint ∈ gtb := gtb_of (List.mem_of_getElem? (i := 594) (by decide +kernel)) rfl
theorem gw_inst_RE_readPiece : Cond.instanceMethod yy_RE_readPiece ∈ gtb := gtb_of (List.mem_of_getElem? (i := 599) (by decide +kernel)) rfl
theorem gw_inst_RE_readFeast : Cond.instanceMethod yy_RE_readFeast ∈ gtb := gtb_of (List.mem_of_getElem? (i := 605) (by decide +kernel)) rfl
theorem gw_inst_RE_readDay : Cond.instanceMethod yy_RE_readDay ∈ gtb := gtb_of (List.mem_of_getElem? (i := 611) (by decide +kernel)) rfl
theorem gw_inst_RE_readBoil : Cond.instanceMethod yy_RE_readBoil ∈ gtb := gtb_of (List.mem_of_getElem? (i := 616) (by decide +kernel)) rfl
theorem gw_inst_SH_copyFrom : Cond.instanceMethod yy_SH_copyFrom ∈ gtb := gtb_of (List.mem_of_getElem? (i := 620) (by decide +kernel)) rfl
theorem gw_sel_SH_copyFrom : Cond.selects RSH yy_SH_copyFrom yy_SH_copyFrom ∈ gtb := gtb_of (List.mem_of_getElem? (i := 621) (by decide +kernel)) rfl
theorem gw_inst_LE_copyFrom : Cond.instanceMethod yy_LE_copyFrom ∈ gtb := gtb_of (List.mem_of_getElem? (i := 624) (by decide +kernel)) rfl
theorem gw_sel_LE_copyFrom : Cond.selects RLE yy_LE_copyFrom yy_LE_copyFrom ∈ gtb := gtb_of (List.mem_of_getElem? (i := 625) (by decide +kernel)) rfl
theorem gw_inst_SH_renewAllGriefs : Cond.instanceMethod yy_SH_renewAllGriefs ∈ gtb := gtb_of (List.mem_of_getElem? (i := 629) (by decide +kernel)) rfl
theorem gw_sel_SH_renewAllGriefs : Cond.selects RSH yy_SH_renewAllGriefs yy_SH_renewAllGriefs ∈ gtb := gtb_of (List.mem_of_getElem? (i := 630) (by decide +kernel)) rfl
theorem gw_inst_GG_grief : Cond.instanceMethod yy_GG_grief ∈ gtb := gtb_of (List.mem_of_getElem? (i := 634) (by decide +kernel)) rfl
theorem gw_sel_GG_grief : Cond.selects RGG yy_GG_grief yy_GG_grief ∈ gtb := gtb_of (List.mem_of_getElem? (i := 635) (by decide +kernel)) rfl
theorem gw_inst_SH_griefOn : Cond.instanceMethod yy_SH_griefOn ∈ gtb := gtb_of (List.mem_of_getElem? (i := 638) (by decide +kernel)) rfl
theorem gw_sel_SH_griefOn : Cond.selects RSH yy_SH_griefOn yy_SH_griefOn ∈ gtb := gtb_of (List.mem_of_getElem? (i := 639) (by decide +kernel)) rfl
theorem gw_inst_GG_opens : Cond.instanceMethod yy_GG_opens ∈ gtb := gtb_of (List.mem_of_getElem? (i := 643) (by decide +kernel)) rfl
theorem gw_sel_GG_opens : Cond.selects RGG yy_GG_opens yy_GG_opens ∈ gtb := gtb_of (List.mem_of_getElem? (i := 644) (by decide +kernel)) rfl
theorem gw_inst_GG_lasts : Cond.instanceMethod yy_GG_lasts ∈ gtb := gtb_of (List.mem_of_getElem? (i := 647) (by decide +kernel)) rfl
theorem gw_sel_GG_lasts : Cond.selects RGG yy_GG_lasts yy_GG_lasts ∈ gtb := gtb_of (List.mem_of_getElem? (i := 648) (by decide +kernel)) rfl
theorem gw_inst_SH_isLasting : Cond.instanceMethod yy_SH_isLasting ∈ gtb := gtb_of (List.mem_of_getElem? (i := 651) (by decide +kernel)) rfl
theorem gw_sel_SH_isLasting : Cond.selects RSH yy_SH_isLasting yy_SH_isLasting ∈ gtb := gtb_of (List.mem_of_getElem? (i := 652) (by decide +kernel)) rfl
theorem gw_inst_SH_isPartOf : Cond.instanceMethod yy_SH_isPartOf ∈ gtb := gtb_of (List.mem_of_getElem? (i := 655) (by decide +kernel)) rfl
theorem gw_sel_SH_isPartOf : Cond.selects RSH yy_SH_isPartOf yy_SH_isPartOf ∈ gtb := gtb_of (List.mem_of_getElem? (i := 656) (by decide +kernel)) rfl
theorem gw_inst_GG_open : Cond.instanceMethod yy_GG_open ∈ gtb := gtb_of (List.mem_of_getElem? (i := 659) (by decide +kernel)) rfl
theorem gw_sel_GG_open : Cond.selects RGG yy_GG_open yy_GG_open ∈ gtb := gtb_of (List.mem_of_getElem? (i := 660) (by decide +kernel)) rfl
theorem gw_inst_GG_hire : Cond.instanceMethod yy_GG_hire ∈ gtb := gtb_of (List.mem_of_getElem? (i := 663) (by decide +kernel)) rfl
theorem gw_sel_GG_hire : Cond.selects RGG yy_GG_hire yy_GG_hire ∈ gtb := gtb_of (List.mem_of_getElem? (i := 664) (by decide +kernel)) rfl
theorem gw_inst_HI_lookAt : Cond.instanceMethod yy_HI_lookAt ∈ gtb := gtb_of (List.mem_of_getElem? (i := 667) (by decide +kernel)) rfl
theorem gw_sel_HI_lookAt : Cond.selects RHI yy_HI_lookAt yy_HI_lookAt ∈ gtb := gtb_of (List.mem_of_getElem? (i := 668) (by decide +kernel)) rfl
theorem gw_inst_HI_lookForNeeds : Cond.instanceMethod yy_HI_lookForNeeds ∈ gtb := gtb_of (List.mem_of_getElem? (i := 674) (by decide +kernel)) rfl
theorem gw_inst_HI_fitsOf : Cond.instanceMethod yy_HI_fitsOf ∈ gtb := gtb_of (List.mem_of_getElem? (i := 682) (by decide +kernel)) rfl
theorem gw_static_HI_pairBit : Cond.static yy_HI_pairBit ∈ gtb := gtb_of (List.mem_of_getElem? (i := 687) (by decide +kernel)) rfl
theorem gw_inst_HI_cheapest : Cond.instanceMethod yy_HI_cheapest ∈ gtb := gtb_of (List.mem_of_getElem? (i := 690) (by decide +kernel)) rfl
theorem gw_sel_HI_cheapest : Cond.selects RHI yy_HI_cheapest yy_HI_cheapest ∈ gtb := gtb_of (List.mem_of_getElem? (i := 691) (by decide +kernel)) rfl
theorem gw_static_HI_isIn : Cond.static yy_HI_isIn ∈ gtb := gtb_of (List.mem_of_getElem? (i := 694) (by decide +kernel)) rfl
theorem gw_inst_HI_priceOf : Cond.instanceMethod yy_HI_priceOf ∈ gtb := gtb_of (List.mem_of_getElem? (i := 697) (by decide +kernel)) rfl
theorem gw_sel_HI_priceOf : Cond.selects RHI yy_HI_priceOf yy_HI_priceOf ∈ gtb := gtb_of (List.mem_of_getElem? (i := 698) (by decide +kernel)) rfl
theorem gw_inst_HI_isEnough : Cond.instanceMethod yy_HI_isEnough ∈ gtb := gtb_of (List.mem_of_getElem? (i := 702) (by decide +kernel)) rfl
theorem gw_inst_HI_boilersFor : Cond.instanceMethod yy_HI_boilersFor ∈ gtb := gtb_of (List.mem_of_getElem? (i := 705) (by decide +kernel)) rfl
theorem gw_sel_HI_boilersFor : Cond.selects RHI yy_HI_boilersFor yy_HI_boilersFor ∈ gtb := gtb_of (List.mem_of_getElem? (i := 706) (by decide +kernel)) rfl
theorem gw_inst_GG_who : Cond.instanceMethod yy_GG_who ∈ gtb := gtb_of (List.mem_of_getElem? (i := 711) (by decide +kernel)) rfl
theorem gw_sel_GG_who : Cond.selects RGG yy_GG_who yy_GG_who ∈ gtb := gtb_of (List.mem_of_getElem? (i := 712) (by decide +kernel)) rfl
theorem gw_inst_HI_isNeedy : Cond.instanceMethod yy_HI_isNeedy ∈ gtb := gtb_of (List.mem_of_getElem? (i := 715) (by decide +kernel)) rfl
theorem gw_sel_HI_isNeedy : Cond.selects RHI yy_HI_isNeedy yy_HI_isNeedy ∈ gtb := gtb_of (List.mem_of_getElem? (i := 716) (by decide +kernel)) rfl
theorem gw_inst_GG_saves : Cond.instanceMethod yy_GG_saves ∈ gtb := gtb_of (List.mem_of_getElem? (i := 720) (by decide +kernel)) rfl
theorem gw_sel_GG_saves : Cond.selects RGG yy_GG_saves yy_GG_saves ∈ gtb := gtb_of (List.mem_of_getElem? (i := 721) (by decide +kernel)) rfl
theorem gw_inst_GG_tears : Cond.instanceMethod yy_GG_tears ∈ gtb := gtb_of (List.mem_of_getElem? (i := 724) (by decide +kernel)) rfl
theorem gw_sel_GG_tears : Cond.selects RGG yy_GG_tears yy_GG_tears ∈ gtb := gtb_of (List.mem_of_getElem? (i := 725) (by decide +kernel)) rfl
theorem gw_inst_OU_fewestOnions : Cond.instanceMethod yy_OU_fewestOnions ∈ gtb := gtb_of (List.mem_of_getElem? (i := 728) (by decide +kernel)) rfl
theorem gw_sel_OU_fewestOnions : Cond.selects ROU yy_OU_fewestOnions yy_OU_fewestOnions ∈ gtb := gtb_of (List.mem_of_getElem? (i := 729) (by decide +kernel)) rfl
theorem gw_inst_SH_fillNextGriefs : Cond.instanceMethod yy_SH_fillNextGriefs ∈ gtb := gtb_of (List.mem_of_getElem? (i := 736) (by decide +kernel)) rfl
theorem gw_sel_SH_fillNextGriefs : Cond.selects RSH yy_SH_fillNextGriefs yy_SH_fillNextGriefs ∈ gtb := gtb_of (List.mem_of_getElem? (i := 737) (by decide +kernel)) rfl
theorem gw_inst_OU_weepADay : Cond.instanceMethod yy_OU_weepADay ∈ gtb := gtb_of (List.mem_of_getElem? (i := 741) (by decide +kernel)) rfl
theorem gw_inst_GG_fact : Cond.instanceMethod yy_GG_fact ∈ gtb := gtb_of (List.mem_of_getElem? (i := 746) (by decide +kernel)) rfl
theorem gw_sel_GG_fact : Cond.selects RGG yy_GG_fact yy_GG_fact ∈ gtb := gtb_of (List.mem_of_getElem? (i := 747) (by decide +kernel)) rfl
theorem gw_inst_GG_forget : Cond.instanceMethod yy_GG_forget ∈ gtb := gtb_of (List.mem_of_getElem? (i := 750) (by decide +kernel)) rfl
theorem gw_sel_GG_forget : Cond.selects RGG yy_GG_forget yy_GG_forget ∈ gtb := gtb_of (List.mem_of_getElem? (i := 751) (by decide +kernel)) rfl
theorem gw_inst_GG_likely : Cond.instanceMethod yy_GG_likely ∈ gtb := gtb_of (List.mem_of_getElem? (i := 754) (by decide +kernel)) rfl
theorem gw_sel_GG_likely : Cond.selects RGG yy_GG_likely yy_GG_likely ∈ gtb := gtb_of (List.mem_of_getElem? (i := 755) (by decide +kernel)) rfl
theorem gw_inst_OU_firstGriefs : Cond.instanceMethod yy_OU_firstGriefs ∈ gtb := gtb_of (List.mem_of_getElem? (i := 758) (by decide +kernel)) rfl
theorem gw_sel_OU_firstGriefs : Cond.selects ROU yy_OU_firstGriefs yy_OU_firstGriefs ∈ gtb := gtb_of (List.mem_of_getElem? (i := 759) (by decide +kernel)) rfl
theorem gw_inst_OU_isByFacts : Cond.instanceMethod yy_OU_isByFacts ∈ gtb := gtb_of (List.mem_of_getElem? (i := 763) (by decide +kernel)) rfl
theorem gw_inst_GG_odds : Cond.instanceMethod yy_GG_odds ∈ gtb := gtb_of (List.mem_of_getElem? (i := 769) (by decide +kernel)) rfl
theorem gw_sel_GG_odds : Cond.selects RGG yy_GG_odds yy_GG_odds ∈ gtb := gtb_of (List.mem_of_getElem? (i := 770) (by decide +kernel)) rfl
theorem gw_inst_OU_chancesToHold : Cond.instanceMethod yy_OU_chancesToHold ∈ gtb := gtb_of (List.mem_of_getElem? (i := 773) (by decide +kernel)) rfl
theorem gw_sel_OU_chancesToHold : Cond.selects ROU yy_OU_chancesToHold yy_OU_chancesToHold ∈ gtb := gtb_of (List.mem_of_getElem? (i := 774) (by decide +kernel)) rfl
theorem gw_static_AR_fillJ : Cond.static yy_AR_fillJ ∈ gtb := gtb_of (List.mem_of_getElem? (i := 777) (by decide +kernel)) rfl
theorem gw_inst_OU_weddingADay : Cond.instanceMethod yy_OU_weddingADay ∈ gtb := gtb_of (List.mem_of_getElem? (i := 781) (by decide +kernel)) rfl
theorem gw_static_GG_tenTo : Cond.static yy_GG_tenTo ∈ gtb := gtb_of (List.mem_of_getElem? (i := 785) (by decide +kernel)) rfl
theorem gw_static_GG_commonDivisor : Cond.static yy_GG_commonDivisor ∈ gtb := gtb_of (List.mem_of_getElem? (i := 789) (by decide +kernel)) rfl
theorem gw_inst_GG_harm : Cond.instanceMethod yy_GG_harm ∈ gtb := gtb_of (List.mem_of_getElem? (i := 792) (by decide +kernel)) rfl
theorem gw_sel_GG_harm : Cond.selects RGG yy_GG_harm yy_GG_harm ∈ gtb := gtb_of (List.mem_of_getElem? (i := 793) (by decide +kernel)) rfl
theorem gw_inst_OU_harmOf : Cond.instanceMethod yy_OU_harmOf ∈ gtb := gtb_of (List.mem_of_getElem? (i := 796) (by decide +kernel)) rfl
theorem gw_sel_OU_harmOf : Cond.selects ROU yy_OU_harmOf yy_OU_harmOf ∈ gtb := gtb_of (List.mem_of_getElem? (i := 797) (by decide +kernel)) rfl
theorem gw_inst_OU_griefsWithout : Cond.instanceMethod yy_OU_griefsWithout ∈ gtb := gtb_of (List.mem_of_getElem? (i := 804) (by decide +kernel)) rfl
theorem gw_inst_GG_part : Cond.instanceMethod yy_GG_part ∈ gtb := gtb_of (List.mem_of_getElem? (i := 810) (by decide +kernel)) rfl
theorem gw_sel_GG_part : Cond.selects RGG yy_GG_part yy_GG_part ∈ gtb := gtb_of (List.mem_of_getElem? (i := 811) (by decide +kernel)) rfl
theorem gw_inst_GG_image : Cond.instanceMethod yy_GG_image ∈ gtb := gtb_of (List.mem_of_getElem? (i := 814) (by decide +kernel)) rfl
theorem gw_sel_GG_image : Cond.selects RGG yy_GG_image yy_GG_image ∈ gtb := gtb_of (List.mem_of_getElem? (i := 815) (by decide +kernel)) rfl
theorem gw_inst_GG_from : Cond.instanceMethod yy_GG_from ∈ gtb := gtb_of (List.mem_of_getElem? (i := 818) (by decide +kernel)) rfl
theorem gw_sel_GG_from : Cond.selects RGG yy_GG_from yy_GG_from ∈ gtb := gtb_of (List.mem_of_getElem? (i := 819) (by decide +kernel)) rfl
theorem gw_inst_GG_status : Cond.instanceMethod yy_GG_status ∈ gtb := gtb_of (List.mem_of_getElem? (i := 822) (by decide +kernel)) rfl
theorem gw_sel_GG_status : Cond.selects RGG yy_GG_status yy_GG_status ∈ gtb := gtb_of (List.mem_of_getElem? (i := 823) (by decide +kernel)) rfl
theorem gw_inst_GG_count : Cond.instanceMethod yy_GG_count ∈ gtb := gtb_of (List.mem_of_getElem? (i := 826) (by decide +kernel)) rfl
theorem gw_sel_GG_count : Cond.selects RGG yy_GG_count yy_GG_count ∈ gtb := gtb_of (List.mem_of_getElem? (i := 827) (by decide +kernel)) rfl
theorem gw_inst_GG_countOf : Cond.instanceMethod yy_GG_countOf ∈ gtb := gtb_of (List.mem_of_getElem? (i := 831) (by decide +kernel)) rfl
theorem gw_inst_GG_digest : Cond.instanceMethod yy_GG_digest ∈ gtb := gtb_of (List.mem_of_getElem? (i := 834) (by decide +kernel)) rfl
theorem gw_sel_GG_digest : Cond.selects RGG yy_GG_digest yy_GG_digest ∈ gtb := gtb_of (List.mem_of_getElem? (i := 835) (by decide +kernel)) rfl
theorem gw_inst_LE_mixInto : Cond.instanceMethod yy_LE_mixInto ∈ gtb := gtb_of (List.mem_of_getElem? (i := 840) (by decide +kernel)) rfl
theorem gw_sel_LE_mixInto : Cond.selects RLE yy_LE_mixInto yy_LE_mixInto ∈ gtb := gtb_of (List.mem_of_getElem? (i := 841) (by decide +kernel)) rfl
theorem gw_inst_SH_mixJointsInto : Cond.instanceMethod yy_SH_mixJointsInto ∈ gtb := gtb_of (List.mem_of_getElem? (i := 845) (by decide +kernel)) rfl
theorem gw_sel_SH_mixJointsInto : Cond.selects RSH yy_SH_mixJointsInto yy_SH_mixJointsInto ∈ gtb := gtb_of (List.mem_of_getElem? (i := 846) (by decide +kernel)) rfl
theorem gw_inst_MO_init : Cond.instanceMethod yy_MO_init ∈ gtb := gtb_of (List.mem_of_getElem? (i := 852) (by decide +kernel)) rfl
theorem gw_inst_MO_mourner : Cond.instanceMethod yy_MO_mourner ∈ gtb := gtb_of (List.mem_of_getElem? (i := 926) (by decide +kernel)) rfl
theorem gw_sel_MO_mourner : Cond.selects RMO yy_MO_mourner yy_MO_mourner ∈ gtb := gtb_of (List.mem_of_getElem? (i := 927) (by decide +kernel)) rfl
theorem gw_static_MO_in : Cond.static yy_MO_in ∈ gtb := gtb_of (List.mem_of_getElem? (i := 930) (by decide +kernel)) rfl
theorem gw_inst_MO_bad : Cond.instanceMethod yy_MO_bad ∈ gtb := gtb_of (List.mem_of_getElem? (i := 934) (by decide +kernel)) rfl
theorem gw_inst_MO_get : Cond.instanceMethod yy_MO_get ∈ gtb := gtb_of (List.mem_of_getElem? (i := 938) (by decide +kernel)) rfl
theorem gw_inst_MO_full : Cond.instanceMethod yy_MO_full ∈ gtb := gtb_of (List.mem_of_getElem? (i := 942) (by decide +kernel)) rfl
theorem gw_inst_MO_addMourner : Cond.instanceMethod yy_MO_addMourner ∈ gtb := gtb_of (List.mem_of_getElem? (i := 946) (by decide +kernel)) rfl
theorem gw_inst_MO_set : Cond.instanceMethod yy_MO_set ∈ gtb := gtb_of (List.mem_of_getElem? (i := 950) (by decide +kernel)) rfl
theorem gw_inst_MO_joint : Cond.instanceMethod yy_MO_joint ∈ gtb := gtb_of (List.mem_of_getElem? (i := 953) (by decide +kernel)) rfl
theorem gw_sel_MO_joint : Cond.selects RMO yy_MO_joint yy_MO_joint ∈ gtb := gtb_of (List.mem_of_getElem? (i := 954) (by decide +kernel)) rfl
theorem gw_inst_MO_addJoint : Cond.instanceMethod yy_MO_addJoint ∈ gtb := gtb_of (List.mem_of_getElem? (i := 958) (by decide +kernel)) rfl
theorem gw_inst_MO_piece : Cond.instanceMethod yy_MO_piece ∈ gtb := gtb_of (List.mem_of_getElem? (i := 961) (by decide +kernel)) rfl
theorem gw_sel_MO_piece : Cond.selects RMO yy_MO_piece yy_MO_piece ∈ gtb := gtb_of (List.mem_of_getElem? (i := 962) (by decide +kernel)) rfl
theorem gw_inst_MO_isSet : Cond.instanceMethod yy_MO_isSet ∈ gtb := gtb_of (List.mem_of_getElem? (i := 966) (by decide +kernel)) rfl
theorem gw_inst_MO_addPiece : Cond.instanceMethod yy_MO_addPiece ∈ gtb := gtb_of (List.mem_of_getElem? (i := 970) (by decide +kernel)) rfl
theorem gw_inst_MO_feast : Cond.instanceMethod yy_MO_feast ∈ gtb := gtb_of (List.mem_of_getElem? (i := 973) (by decide +kernel)) rfl
theorem gw_sel_MO_feast : Cond.selects RMO yy_MO_feast yy_MO_feast ∈ gtb := gtb_of (List.mem_of_getElem? (i := 974) (by decide +kernel)) rfl
theorem gw_inst_MO_isMourner : Cond.instanceMethod yy_MO_isMourner ∈ gtb := gtb_of (List.mem_of_getElem? (i := 978) (by decide +kernel)) rfl
theorem gw_inst_MO_addFeast : Cond.instanceMethod yy_MO_addFeast ∈ gtb := gtb_of (List.mem_of_getElem? (i := 982) (by decide +kernel)) rfl
theorem gw_inst_MO_skip : Cond.instanceMethod yy_MO_skip ∈ gtb := gtb_of (List.mem_of_getElem? (i := 985) (by decide +kernel)) rfl
theorem gw_sel_MO_skip : Cond.selects RMO yy_MO_skip yy_MO_skip ∈ gtb := gtb_of (List.mem_of_getElem? (i := 986) (by decide +kernel)) rfl
theorem gw_inst_MO_no : Cond.instanceMethod yy_MO_no ∈ gtb := gtb_of (List.mem_of_getElem? (i := 990) (by decide +kernel)) rfl
theorem gw_inst_MO_undo : Cond.instanceMethod yy_MO_undo ∈ gtb := gtb_of (List.mem_of_getElem? (i := 993) (by decide +kernel)) rfl
theorem gw_sel_MO_undo : Cond.selects RMO yy_MO_undo yy_MO_undo ∈ gtb := gtb_of (List.mem_of_getElem? (i := 994) (by decide +kernel)) rfl
theorem gw_inst_MO_boil : Cond.instanceMethod yy_MO_boil ∈ gtb := gtb_of (List.mem_of_getElem? (i := 997) (by decide +kernel)) rfl
theorem gw_sel_MO_boil : Cond.selects RMO yy_MO_boil yy_MO_boil ∈ gtb := gtb_of (List.mem_of_getElem? (i := 998) (by decide +kernel)) rfl
theorem gw_inst_MO_isJoint : Cond.instanceMethod yy_MO_isJoint ∈ gtb := gtb_of (List.mem_of_getElem? (i := 1002) (by decide +kernel)) rfl
theorem gw_inst_MO_know : Cond.instanceMethod yy_MO_know ∈ gtb := gtb_of (List.mem_of_getElem? (i := 1006) (by decide +kernel)) rfl
theorem gw_inst_MO_boiled : Cond.instanceMethod yy_MO_boiled ∈ gtb := gtb_of (List.mem_of_getElem? (i := 1010) (by decide +kernel)) rfl
theorem gw_inst_MO_opensOn : Cond.instanceMethod yy_MO_opensOn ∈ gtb := gtb_of (List.mem_of_getElem? (i := 1014) (by decide +kernel)) rfl
theorem gw_inst_MO_findGriefs : Cond.instanceMethod yy_MO_findGriefs ∈ gtb := gtb_of (List.mem_of_getElem? (i := 1018) (by decide +kernel)) rfl
theorem gw_inst_MO_onDay : Cond.instanceMethod yy_MO_onDay ∈ gtb := gtb_of (List.mem_of_getElem? (i := 1022) (by decide +kernel)) rfl
theorem gw_static_MO_step : Cond.static yy_MO_step ∈ gtb := gtb_of (List.mem_of_getElem? (i := 1025) (by decide +kernel)) rfl
theorem gw_static_MO_less : Cond.static yy_MO_less ∈ gtb := gtb_of (List.mem_of_getElem? (i := 1028) (by decide +kernel)) rfl
theorem gw_static_MO_widow : Cond.static yy_MO_widow ∈ gtb := gtb_of (List.mem_of_getElem? (i := 1031) (by decide +kernel)) rfl
theorem gw_static_MO_more : Cond.static yy_MO_more ∈ gtb := gtb_of (List.mem_of_getElem? (i := 1034) (by decide +kernel)) rfl
theorem gw_inst_MO_opensBy : Cond.instanceMethod yy_MO_opensBy ∈ gtb := gtb_of (List.mem_of_getElem? (i := 1038) (by decide +kernel)) rfl
theorem gw_inst_MO_strength : Cond.instanceMethod yy_MO_strength ∈ gtb := gtb_of (List.mem_of_getElem? (i := 1042) (by decide +kernel)) rfl
theorem gw_inst_MO_day : Cond.instanceMethod yy_MO_day ∈ gtb := gtb_of (List.mem_of_getElem? (i := 1045) (by decide +kernel)) rfl
theorem gw_sel_MO_day : Cond.selects RMO yy_MO_day yy_MO_day ∈ gtb := gtb_of (List.mem_of_getElem? (i := 1046) (by decide +kernel)) rfl
theorem gw_inst_MO_openNow : Cond.instanceMethod yy_MO_openNow ∈ gtb := gtb_of (List.mem_of_getElem? (i := 1050) (by decide +kernel)) rfl
theorem gw_inst_MO_isBoiled : Cond.instanceMethod yy_MO_isBoiled ∈ gtb := gtb_of (List.mem_of_getElem? (i := 1054) (by decide +kernel)) rfl
theorem gw_inst_MO_type : Cond.instanceMethod yy_MO_type ∈ gtb := gtb_of (List.mem_of_getElem? (i := 1057) (by decide +kernel)) rfl
theorem gw_sel_MO_type : Cond.selects RMO yy_MO_type yy_MO_type ∈ gtb := gtb_of (List.mem_of_getElem? (i := 1058) (by decide +kernel)) rfl
theorem gw_inst_MO_clear : Cond.instanceMethod yy_MO_clear ∈ gtb := gtb_of (List.mem_of_getElem? (i := 1062) (by decide +kernel)) rfl
theorem gw_sel_MO_clear : Cond.selects RMO yy_MO_clear yy_MO_clear ∈ gtb := gtb_of (List.mem_of_getElem? (i := 1063) (by decide +kernel)) rfl
theorem gw_inst_MO_read : Cond.instanceMethod yy_MO_read ∈ gtb := gtb_of (List.mem_of_getElem? (i := 1066) (by decide +kernel)) rfl
theorem gw_sel_MO_read : Cond.selects RMO yy_MO_read yy_MO_read ∈ gtb := gtb_of (List.mem_of_getElem? (i := 1067) (by decide +kernel)) rfl
theorem gw_inst_MO_next : Cond.instanceMethod yy_MO_next ∈ gtb := gtb_of (List.mem_of_getElem? (i := 1071) (by decide +kernel)) rfl
theorem gw_inst_MO_here : Cond.instanceMethod yy_MO_here ∈ gtb := gtb_of (List.mem_of_getElem? (i := 1075) (by decide +kernel)) rfl
theorem gw_static_MO_meaning : Cond.static yy_MO_meaning ∈ gtb := gtb_of (List.mem_of_getElem? (i := 1078) (by decide +kernel)) rfl
theorem gw_inst_MO_readItem : Cond.instanceMethod yy_MO_readItem ∈ gtb := gtb_of (List.mem_of_getElem? (i := 1084) (by decide +kernel)) rfl
theorem gw_inst_MO_mayBe : Cond.instanceMethod yy_MO_mayBe ∈ gtb := gtb_of (List.mem_of_getElem? (i := 1088) (by decide +kernel)) rfl
theorem gw_inst_MO_due : Cond.instanceMethod yy_MO_due ∈ gtb := gtb_of (List.mem_of_getElem? (i := 1092) (by decide +kernel)) rfl
theorem gw_inst_MO_isNumber : Cond.instanceMethod yy_MO_isNumber ∈ gtb := gtb_of (List.mem_of_getElem? (i := 1096) (by decide +kernel)) rfl
theorem gw_inst_MO_readBoil : Cond.instanceMethod yy_MO_readBoil ∈ gtb := gtb_of (List.mem_of_getElem? (i := 1100) (by decide +kernel)) rfl
theorem gw_inst_MO_readRow : Cond.instanceMethod yy_MO_readRow ∈ gtb := gtb_of (List.mem_of_getElem? (i := 1104) (by decide +kernel)) rfl
theorem gw_inst_MO_copy : Cond.instanceMethod yy_MO_copy ∈ gtb := gtb_of (List.mem_of_getElem? (i := 1108) (by decide +kernel)) rfl
theorem gw_inst_MO_grief : Cond.instanceMethod yy_MO_grief ∈ gtb := gtb_of (List.mem_of_getElem? (i := 1111) (by decide +kernel)) rfl
theorem gw_sel_MO_grief : Cond.selects RMO yy_MO_grief yy_MO_grief ∈ gtb := gtb_of (List.mem_of_getElem? (i := 1112) (by decide +kernel)) rfl
theorem gw_inst_MO_opens : Cond.instanceMethod yy_MO_opens ∈ gtb := gtb_of (List.mem_of_getElem? (i := 1115) (by decide +kernel)) rfl
theorem gw_sel_MO_opens : Cond.selects RMO yy_MO_opens yy_MO_opens ∈ gtb := gtb_of (List.mem_of_getElem? (i := 1116) (by decide +kernel)) rfl
theorem gw_inst_MO_lasts : Cond.instanceMethod yy_MO_lasts ∈ gtb := gtb_of (List.mem_of_getElem? (i := 1119) (by decide +kernel)) rfl
theorem gw_sel_MO_lasts : Cond.selects RMO yy_MO_lasts yy_MO_lasts ∈ gtb := gtb_of (List.mem_of_getElem? (i := 1120) (by decide +kernel)) rfl
theorem gw_inst_MO_isLasting : Cond.instanceMethod yy_MO_isLasting ∈ gtb := gtb_of (List.mem_of_getElem? (i := 1124) (by decide +kernel)) rfl
theorem gw_inst_MO_open : Cond.instanceMethod yy_MO_open ∈ gtb := gtb_of (List.mem_of_getElem? (i := 1127) (by decide +kernel)) rfl
theorem gw_sel_MO_open : Cond.selects RMO yy_MO_open yy_MO_open ∈ gtb := gtb_of (List.mem_of_getElem? (i := 1128) (by decide +kernel)) rfl
theorem gw_inst_MO_hire : Cond.instanceMethod yy_MO_hire ∈ gtb := gtb_of (List.mem_of_getElem? (i := 1131) (by decide +kernel)) rfl
theorem gw_sel_MO_hire : Cond.selects RMO yy_MO_hire yy_MO_hire ∈ gtb := gtb_of (List.mem_of_getElem? (i := 1132) (by decide +kernel)) rfl
theorem gw_inst_MO_findNeeds : Cond.instanceMethod yy_MO_findNeeds ∈ gtb := gtb_of (List.mem_of_getElem? (i := 1136) (by decide +kernel)) rfl
theorem gw_inst_MO_hired : Cond.instanceMethod yy_MO_hired ∈ gtb := gtb_of (List.mem_of_getElem? (i := 1140) (by decide +kernel)) rfl
theorem gw_inst_MO_priceOf : Cond.instanceMethod yy_MO_priceOf ∈ gtb := gtb_of (List.mem_of_getElem? (i := 1144) (by decide +kernel)) rfl
theorem gw_inst_MO_whoOf : Cond.instanceMethod yy_MO_whoOf ∈ gtb := gtb_of (List.mem_of_getElem? (i := 1148) (by decide +kernel)) rfl
theorem gw_inst_MO_wouldHold : Cond.instanceMethod yy_MO_wouldHold ∈ gtb := gtb_of (List.mem_of_getElem? (i := 1152) (by decide +kernel)) rfl
theorem gw_inst_MO_who : Cond.instanceMethod yy_MO_who ∈ gtb := gtb_of (List.mem_of_getElem? (i := 1155) (by decide +kernel)) rfl
theorem gw_sel_MO_who : Cond.selects RMO yy_MO_who yy_MO_who ∈ gtb := gtb_of (List.mem_of_getElem? (i := 1156) (by decide +kernel)) rfl
theorem gw_inst_MO_saves : Cond.instanceMethod yy_MO_saves ∈ gtb := gtb_of (List.mem_of_getElem? (i := 1159) (by decide +kernel)) rfl
theorem gw_sel_MO_saves : Cond.selects RMO yy_MO_saves yy_MO_saves ∈ gtb := gtb_of (List.mem_of_getElem? (i := 1160) (by decide +kernel)) rfl
theorem gw_inst_MO_tears : Cond.instanceMethod yy_MO_tears ∈ gtb := gtb_of (List.mem_of_getElem? (i := 1163) (by decide +kernel)) rfl
theorem gw_sel_MO_tears : Cond.selects RMO yy_MO_tears yy_MO_tears ∈ gtb := gtb_of (List.mem_of_getElem? (i := 1164) (by decide +kernel)) rfl
theorem gw_inst_MO_fact : Cond.instanceMethod yy_MO_fact ∈ gtb := gtb_of (List.mem_of_getElem? (i := 1167) (by decide +kernel)) rfl
theorem gw_sel_MO_fact : Cond.selects RMO yy_MO_fact yy_MO_fact ∈ gtb := gtb_of (List.mem_of_getElem? (i := 1168) (by decide +kernel)) rfl
theorem gw_inst_MO_forget : Cond.instanceMethod yy_MO_forget ∈ gtb := gtb_of (List.mem_of_getElem? (i := 1171) (by decide +kernel)) rfl
theorem gw_sel_MO_forget : Cond.selects RMO yy_MO_forget yy_MO_forget ∈ gtb := gtb_of (List.mem_of_getElem? (i := 1172) (by decide +kernel)) rfl
theorem gw_inst_MO_likely : Cond.instanceMethod yy_MO_likely ∈ gtb := gtb_of (List.mem_of_getElem? (i := 1175) (by decide +kernel)) rfl
theorem gw_sel_MO_likely : Cond.selects RMO yy_MO_likely yy_MO_likely ∈ gtb := gtb_of (List.mem_of_getElem? (i := 1176) (by decide +kernel)) rfl
theorem gw_inst_MO_isLikely : Cond.instanceMethod yy_MO_isLikely ∈ gtb := gtb_of (List.mem_of_getElem? (i := 1180) (by decide +kernel)) rfl
theorem gw_inst_MO_odds : Cond.instanceMethod yy_MO_odds ∈ gtb := gtb_of (List.mem_of_getElem? (i := 1183) (by decide +kernel)) rfl
theorem gw_sel_MO_odds : Cond.selects RMO yy_MO_odds yy_MO_odds ∈ gtb := gtb_of (List.mem_of_getElem? (i := 1184) (by decide +kernel)) rfl
theorem gw_inst_MO_harm : Cond.instanceMethod yy_MO_harm ∈ gtb := gtb_of (List.mem_of_getElem? (i := 1188) (by decide +kernel)) rfl
theorem gw_sel_MO_harm : Cond.selects RMO yy_MO_harm yy_MO_harm ∈ gtb := gtb_of (List.mem_of_getElem? (i := 1189) (by decide +kernel)) rfl
theorem gw_inst_MO_part : Cond.instanceMethod yy_MO_part ∈ gtb := gtb_of (List.mem_of_getElem? (i := 1192) (by decide +kernel)) rfl
theorem gw_sel_MO_part : Cond.selects RMO yy_MO_part yy_MO_part ∈ gtb := gtb_of (List.mem_of_getElem? (i := 1193) (by decide +kernel)) rfl
theorem gw_inst_MO_image : Cond.instanceMethod yy_MO_image ∈ gtb := gtb_of (List.mem_of_getElem? (i := 1196) (by decide +kernel)) rfl
theorem gw_sel_MO_image : Cond.selects RMO yy_MO_image yy_MO_image ∈ gtb := gtb_of (List.mem_of_getElem? (i := 1197) (by decide +kernel)) rfl
theorem gw_inst_MO_from : Cond.instanceMethod yy_MO_from ∈ gtb := gtb_of (List.mem_of_getElem? (i := 1200) (by decide +kernel)) rfl
theorem gw_sel_MO_from : Cond.selects RMO yy_MO_from yy_MO_from ∈ gtb := gtb_of (List.mem_of_getElem? (i := 1201) (by decide +kernel)) rfl
theorem gw_inst_MO_status : Cond.instanceMethod yy_MO_status ∈ gtb := gtb_of (List.mem_of_getElem? (i := 1204) (by decide +kernel)) rfl
theorem gw_sel_MO_status : Cond.selects RMO yy_MO_status yy_MO_status ∈ gtb := gtb_of (List.mem_of_getElem? (i := 1205) (by decide +kernel)) rfl
theorem gw_inst_MO_count : Cond.instanceMethod yy_MO_count ∈ gtb := gtb_of (List.mem_of_getElem? (i := 1208) (by decide +kernel)) rfl
theorem gw_sel_MO_count : Cond.selects RMO yy_MO_count yy_MO_count ∈ gtb := gtb_of (List.mem_of_getElem? (i := 1209) (by decide +kernel)) rfl
theorem gw_inst_MO_digest : Cond.instanceMethod yy_MO_digest ∈ gtb := gtb_of (List.mem_of_getElem? (i := 1212) (by decide +kernel)) rfl
theorem gw_sel_MO_digest : Cond.selects RMO yy_MO_digest yy_MO_digest ∈ gtb := gtb_of (List.mem_of_getElem? (i := 1213) (by decide +kernel)) rfl
theorem gw_inst_MO_digestRow : Cond.instanceMethod yy_MO_digestRow ∈ gtb := gtb_of (List.mem_of_getElem? (i := 1218) (by decide +kernel)) rfl
theorem gw_m_LA_9 : Cond.methodLink RLA 9 yy_GG_init ∈ gtb := gtb_of (List.mem_of_getElem? (i := 86) (by decide +kernel)) rfl
theorem gw_m_GG_11 : Cond.methodLink RGG 11 yy_SH_init ∈ gtb := gtb_of (List.mem_of_getElem? (i := 94) (by decide +kernel)) rfl
theorem gw_m_SH_11 : Cond.methodLink RSH 11 yy_LE_init ∈ gtb := gtb_of (List.mem_of_getElem? (i := 100) (by decide +kernel)) rfl
theorem gw_m_LE_9 : Cond.methodLink RLE 9 yy_MA_max ∈ gtb := gtb_of (List.mem_of_getElem? (i := 104) (by decide +kernel)) rfl
theorem gw_m_SH_44 : Cond.methodLink RSH 44 yy_AR_fillI ∈ gtb := gtb_of (List.mem_of_getElem? (i := 128) (by decide +kernel)) rfl
theorem gw_m_GG_26 : Cond.methodLinkNest RGG 26 yy_RE_init RGG ∈ nst := nst_of (List.mem_of_getElem? (i := 184) (by decide +kernel)) rfl
theorem gw_m_RE_21 : Cond.methodLink RRE 21 yy_SH_init ∈ gtb := gtb_of (List.mem_of_getElem? (i := 189) (by decide +kernel)) rfl
theorem gw_m_GG_33 : Cond.methodLinkNest RGG 33 yy_HI_init RGG ∈ nst := nst_of (List.mem_of_getElem? (i := 221) (by decide +kernel)) rfl
theorem gw_m_GG_40 : Cond.methodLinkNest RGG 40 yy_OU_init RGG ∈ nst := nst_of (List.mem_of_getElem? (i := 241) (by decide +kernel)) rfl
theorem gw_m_LA_13 : Cond.methodLink RLA 13 yy_GG_mourner ∈ gtb := gtb_of (List.mem_of_getElem? (i := 298) (by decide +kernel)) rfl
theorem gw_m_GG_49 : Cond.methodLink RGG 49 yy_GG_isWithin ∈ gtb := gtb_of (List.mem_of_getElem? (i := 302) (by decide +kernel)) rfl
theorem gw_m_GG_53 : Cond.methodLink RGG 53 yy_GG_refuseBad ∈ gtb := gtb_of (List.mem_of_getElem? (i := 305) (by decide +kernel)) rfl
theorem gw_m_GG_61 : Cond.methodLink RGG 61 yy_LE_isFull ∈ gtb := gtb_of (List.mem_of_getElem? (i := 309) (by decide +kernel)) rfl
theorem gw_m_GG_67 : Cond.methodLink RGG 67 yy_GG_refuseFull ∈ gtb := gtb_of (List.mem_of_getElem? (i := 313) (by decide +kernel)) rfl
theorem gw_m_GG_70 : Cond.methodLink RGG 70 yy_SH_addMourner ∈ gtb := gtb_of (List.mem_of_getElem? (i := 317) (by decide +kernel)) rfl
theorem gw_m_SH_70 : Cond.methodLink RSH 70 yy_LE_add ∈ gtb := gtb_of (List.mem_of_getElem? (i := 321) (by decide +kernel)) rfl
theorem gw_m_LE_35 : Cond.methodLink RLE 35 yy_LE_isFull ∈ gtb := gtb_of (List.mem_of_getElem? (i := 325) (by decide +kernel)) rfl
theorem gw_m_SH_74 : Cond.methodLink RSH 74 yy_SH_renewGriefs ∈ gtb := gtb_of (List.mem_of_getElem? (i := 326) (by decide +kernel)) rfl
theorem gw_m_SH_85 : Cond.methodLink RSH 85 yy_LE_has ∈ gtb := gtb_of (List.mem_of_getElem? (i := 330) (by decide +kernel)) rfl
theorem gw_m_SH_89 : Cond.methodLink RSH 89 yy_SH_fillGriefs ∈ gtb := gtb_of (List.mem_of_getElem? (i := 334) (by decide +kernel)) rfl
theorem gw_m_SH_78 : Cond.methodLink RSH 78 yy_LE_at ∈ gtb := gtb_of (List.mem_of_getElem? (i := 338) (by decide +kernel)) rfl
theorem gw_m_LE_31 : Cond.methodLink RLE 31 yy_LE_has ∈ gtb := gtb_of (List.mem_of_getElem? (i := 342) (by decide +kernel)) rfl
theorem gw_m_SH_93 : Cond.methodLink RSH 93 yy_KI_stepOf ∈ gtb := gtb_of (List.mem_of_getElem? (i := 343) (by decide +kernel)) rfl
theorem gw_m_KI_9 : Cond.methodLink RKI 9 yy_KI_widowStep ∈ gtb := gtb_of (List.mem_of_getElem? (i := 346) (by decide +kernel)) rfl
theorem gw_m_KI_19 : Cond.methodLink RKI 19 yy_KI_mournerStep ∈ gtb := gtb_of (List.mem_of_getElem? (i := 349) (by decide +kernel)) rfl
theorem gw_m_KI_15 : Cond.methodLink RKI 15 yy_KI_heirStep ∈ gtb := gtb_of (List.mem_of_getElem? (i := 352) (by decide +kernel)) rfl
theorem gw_m_SH_98 : Cond.methodLink RSH 98 yy_SH_isFeastOf ∈ gtb := gtb_of (List.mem_of_getElem? (i := 355) (by decide +kernel)) rfl
theorem gw_m_SH_102 : Cond.methodLink RSH 102 yy_KI_feastOf ∈ gtb := gtb_of (List.mem_of_getElem? (i := 359) (by decide +kernel)) rfl
theorem gw_m_KI_22 : Cond.methodLink RKI 22 yy_MA_min ∈ gtb := gtb_of (List.mem_of_getElem? (i := 362) (by decide +kernel)) rfl
theorem gw_m_LA_18 : Cond.methodLink RLA 18 yy_GG_joint ∈ gtb := gtb_of (List.mem_of_getElem? (i := 365) (by decide +kernel)) rfl
theorem gw_m_GG_77 : Cond.methodLink RGG 77 yy_LE_add ∈ gtb := gtb_of (List.mem_of_getElem? (i := 369) (by decide +kernel)) rfl
theorem gw_m_LA_23 : Cond.methodLink RLA 23 yy_GG_piece ∈ gtb := gtb_of (List.mem_of_getElem? (i := 370) (by decide +kernel)) rfl
theorem gw_m_GG_80 : Cond.methodLink RGG 80 yy_SH_allJoints ∈ gtb := gtb_of (List.mem_of_getElem? (i := 374) (by decide +kernel)) rfl
theorem gw_m_LA_28 : Cond.methodLink RLA 28 yy_GG_feast ∈ gtb := gtb_of (List.mem_of_getElem? (i := 378) (by decide +kernel)) rfl
theorem gw_m_GG_86 : Cond.methodLink RGG 86 yy_LE_has ∈ gtb := gtb_of (List.mem_of_getElem? (i := 382) (by decide +kernel)) rfl
theorem gw_m_GG_93 : Cond.methodLink RGG 93 yy_SH_addFeast ∈ gtb := gtb_of (List.mem_of_getElem? (i := 383) (by decide +kernel)) rfl
theorem gw_m_LA_32 : Cond.methodLink RLA 32 yy_GG_skip ∈ gtb := gtb_of (List.mem_of_getElem? (i := 387) (by decide +kernel)) rfl
theorem gw_m_GG_100 : Cond.methodLink RGG 100 yy_GG_refuseNo ∈ gtb := gtb_of (List.mem_of_getElem? (i := 391) (by decide +kernel)) rfl
theorem gw_m_GG_103 : Cond.methodLink RGG 103 yy_SH_dropFeast ∈ gtb := gtb_of (List.mem_of_getElem? (i := 395) (by decide +kernel)) rfl
theorem gw_m_SH_82 : Cond.methodLink RSH 82 yy_LE_dropLast ∈ gtb := gtb_of (List.mem_of_getElem? (i := 399) (by decide +kernel)) rfl
theorem gw_m_LA_37 : Cond.methodLink RLA 37 yy_GG_boil ∈ gtb := gtb_of (List.mem_of_getElem? (i := 403) (by decide +kernel)) rfl
theorem gw_m_GG_106 : Cond.methodLink RGG 106 yy_SH_keepPast ∈ gtb := gtb_of (List.mem_of_getElem? (i := 407) (by decide +kernel)) rfl
theorem gw_m_SH_64 : Cond.methodLink RSH 64 arraycopyName ∈ gtb := gtb_of (List.mem_of_getElem? (i := 411) (by decide +kernel)) rfl
theorem gw_m_GG_109 : Cond.methodLink RGG 109 yy_SH_boilNow ∈ gtb := gtb_of (List.mem_of_getElem? (i := 414) (by decide +kernel)) rfl
theorem gw_m_GG_113 : Cond.methodLink RGG 113 yy_SH_openingOf ∈ gtb := gtb_of (List.mem_of_getElem? (i := 418) (by decide +kernel)) rfl
theorem gw_m_SH_108 : Cond.methodLink RSH 108 yy_SH_boiledOn ∈ gtb := gtb_of (List.mem_of_getElem? (i := 422) (by decide +kernel)) rfl
theorem gw_m_SH_112 : Cond.methodLink RSH 112 yy_SH_firstBoiler ∈ gtb := gtb_of (List.mem_of_getElem? (i := 426) (by decide +kernel)) rfl
theorem gw_m_SH_115 : Cond.methodLink RSH 115 yy_SH_griefsOf ∈ gtb := gtb_of (List.mem_of_getElem? (i := 430) (by decide +kernel)) rfl
theorem gw_m_SH_119 : Cond.methodLink RSH 119 yy_SH_secondBoiler ∈ gtb := gtb_of (List.mem_of_getElem? (i := 434) (by decide +kernel)) rfl
theorem gw_m_SH_122 : Cond.methodLink RSH 122 yy_SH_firstWeakDay ∈ gtb := gtb_of (List.mem_of_getElem? (i := 438) (by decide +kernel)) rfl
theorem gw_m_SH_126 : Cond.methodLink RSH 126 yy_MA_max ∈ gtb := gtb_of (List.mem_of_getElem? (i := 441) (by decide +kernel)) rfl
theorem gw_m_LA_41 : Cond.methodLink RLA 41 yy_GG_day ∈ gtb := gtb_of (List.mem_of_getElem? (i := 442) (by decide +kernel)) rfl
theorem gw_m_GG_120 : Cond.methodLink RGG 120 yy_SH_openJoints ∈ gtb := gtb_of (List.mem_of_getElem? (i := 446) (by decide +kernel)) rfl
theorem gw_m_SH_131 : Cond.methodLink RSH 131 yy_SH_openingOf ∈ gtb := gtb_of (List.mem_of_getElem? (i := 450) (by decide +kernel)) rfl
theorem gw_m_GG_123 : Cond.methodLink RGG 123 yy_IN_bitCount ∈ gtb := gtb_of (List.mem_of_getElem? (i := 451) (by decide +kernel)) rfl
theorem gw_m_LA_45 : Cond.methodLink RLA 45 yy_GG_undo ∈ gtb := gtb_of (List.mem_of_getElem? (i := 457) (by decide +kernel)) rfl
theorem gw_m_GG_131 : Cond.methodLink RGG 131 yy_SH_goBack ∈ gtb := gtb_of (List.mem_of_getElem? (i := 461) (by decide +kernel)) rfl
theorem gw_m_LA_51 : Cond.methodLink RLA 51 yy_GG_type ∈ gtb := gtb_of (List.mem_of_getElem? (i := 465) (by decide +kernel)) rfl
theorem gw_m_GG_137 : Cond.methodLink RGG 137 yy_RE_addByte ∈ gtb := gtb_of (List.mem_of_getElem? (i := 469) (by decide +kernel)) rfl
theorem gw_m_LA_56 : Cond.methodLink RLA 56 yy_GG_clear ∈ gtb := gtb_of (List.mem_of_getElem? (i := 473) (by decide +kernel)) rfl
theorem gw_m_LA_60 : Cond.methodLink RLA 60 yy_GG_read ∈ gtb := gtb_of (List.mem_of_getElem? (i := 477) (by decide +kernel)) rfl
theorem gw_m_GG_141 : Cond.methodLink RGG 141 yy_RE_readItems ∈ gtb := gtb_of (List.mem_of_getElem? (i := 481) (by decide +kernel)) rfl
theorem gw_m_RE_29 : Cond.methodLink RRE 29 yy_SH_makeEmpty ∈ gtb := gtb_of (List.mem_of_getElem? (i := 485) (by decide +kernel)) rfl
theorem gw_m_RE_35 : Cond.methodLink RRE 35 yy_RE_nextToken ∈ gtb := gtb_of (List.mem_of_getElem? (i := 489) (by decide +kernel)) rfl
theorem gw_m_RE_145 : Cond.methodLink RRE 145 yy_RE_isLetter ∈ gtb := gtb_of (List.mem_of_getElem? (i := 493) (by decide +kernel)) rfl
theorem gw_m_RE_149 : Cond.methodLink RRE 149 yy_RE_readLetters ∈ gtb := gtb_of (List.mem_of_getElem? (i := 496) (by decide +kernel)) rfl
theorem gw_m_RE_152 : Cond.methodLink RRE 152 yy_RE_isFigure ∈ gtb := gtb_of (List.mem_of_getElem? (i := 500) (by decide +kernel)) rfl
theorem gw_m_RE_155 : Cond.methodLink RRE 155 yy_RE_readFigures ∈ gtb := gtb_of (List.mem_of_getElem? (i := 503) (by decide +kernel)) rfl
theorem gw_m_RE_43 : Cond.methodLink RRE 43 yy_RE_isWord ∈ gtb := gtb_of (List.mem_of_getElem? (i := 508) (by decide +kernel)) rfl
theorem gw_m_RE_158 : Cond.methodLink RRE 158 yy_ST_length ∈ gtb := gtb_of (List.mem_of_getElem? (i := 512) (by decide +kernel)) rfl
theorem gw_m_ST_335 : Cond.methodLink RST 335 yy_ST_coder ∈ gtb := gtb_of (List.mem_of_getElem? (i := 516) (by decide +kernel)) rfl
theorem gw_m_RE_162 : Cond.methodLink RRE 162 yy_ST_charAt ∈ gtb := gtb_of (List.mem_of_getElem? (i := 522) (by decide +kernel)) rfl
theorem gw_m_ST_492 : Cond.methodLink RST 492 yy_ST_isLatin1 ∈ gtb := gtb_of (List.mem_of_getElem? (i := 526) (by decide +kernel)) rfl
theorem gw_m_ST_495 : Cond.methodLink RST 495 yy_SL_charAt ∈ gtb := gtb_of (List.mem_of_getElem? (i := 530) (by decide +kernel)) rfl
theorem gw_m_SL_9 : Cond.methodLink RSL 9 yy_ST_checkIndex ∈ gtb := gtb_of (List.mem_of_getElem? (i := 533) (by decide +kernel)) rfl
theorem gw_m_ST_1059 : Cond.methodLink RST 1059 yy_PR_checkIndex ∈ gtb := gtb_of (List.mem_of_getElem? (i := 538) (by decide +kernel)) rfl
theorem gw_m_ST_498 : Cond.methodLink RST 498 yy_SU_charAt ∈ gtb := gtb_of (List.mem_of_getElem? (i := 541) (by decide +kernel)) rfl
theorem gw_m_SU_67 : Cond.methodLink RSU 67 yy_SU_checkIndex ∈ gtb := gtb_of (List.mem_of_getElem? (i := 544) (by decide +kernel)) rfl
theorem gw_m_SU_48 : Cond.methodLink RSU 48 yy_SU_length ∈ gtb := gtb_of (List.mem_of_getElem? (i := 547) (by decide +kernel)) rfl
theorem gw_m_SU_414 : Cond.methodLink RSU 414 yy_ST_checkIndex ∈ gtb := gtb_of (List.mem_of_getElem? (i := 550) (by decide +kernel)) rfl
theorem gw_m_SU_71 : Cond.methodLink RSU 71 yy_SU_getChar ∈ gtb := gtb_of (List.mem_of_getElem? (i := 551) (by decide +kernel)) rfl
theorem gw_m_RE_47 : Cond.methodLink RRE 47 yy_RE_readMourner ∈ gtb := gtb_of (List.mem_of_getElem? (i := 560) (by decide +kernel)) rfl
theorem gw_m_RE_85 : Cond.methodLink RRE 85 yy_RE_wantRoom ∈ gtb := gtb_of (List.mem_of_getElem? (i := 564) (by decide +kernel)) rfl
theorem gw_m_RE_134 : Cond.methodLink RRE 134 yy_LE_isFull ∈ gtb := gtb_of (List.mem_of_getElem? (i := 568) (by decide +kernel)) rfl
theorem gw_m_RE_78 : Cond.methodLink RRE 78 yy_RE_blame ∈ gtb := gtb_of (List.mem_of_getElem? (i := 569) (by decide +kernel)) rfl
theorem gw_m_RE_89 : Cond.methodLink RRE 89 yy_RE_readNumber ∈ gtb := gtb_of (List.mem_of_getElem? (i := 573) (by decide +kernel)) rfl
theorem gw_m_RE_123 : Cond.methodLink RRE 123 yy_RE_wantNumber ∈ gtb := gtb_of (List.mem_of_getElem? (i := 577) (by decide +kernel)) rfl
theorem gw_m_RE_138 : Cond.methodLinkNest RRE 138 yy_GG_isWithin RGG ∈ nst := nst_of (List.mem_of_getElem? (i := 581) (by decide +kernel)) rfl
theorem gw_m_RE_93 : Cond.methodLink RRE 93 yy_RE_readStop ∈ gtb := gtb_of (List.mem_of_getElem? (i := 582) (by decide +kernel)) rfl
theorem gw_m_RE_127 : Cond.methodLink RRE 127 yy_RE_wantStop ∈ gtb := gtb_of (List.mem_of_getElem? (i := 586) (by decide +kernel)) rfl
theorem gw_m_RE_96 : Cond.methodLink RRE 96 yy_LE_add ∈ gtb := gtb_of (List.mem_of_getElem? (i := 590) (by decide +kernel)) rfl
theorem gw_m_RE_52 : Cond.methodLink RRE 52 yy_RE_readJoint ∈ gtb := gtb_of (List.mem_of_getElem? (i := 592) (by decide +kernel)) rfl
theorem gw_m_RE_57 : Cond.methodLink RRE 57 yy_RE_readPiece ∈ gtb := gtb_of (List.mem_of_getElem? (i := 597) (by decide +kernel)) rfl
theorem gw_m_RE_108 : Cond.methodLink RRE 108 yy_SH_allJoints ∈ gtb := gtb_of (List.mem_of_getElem? (i := 601) (by decide +kernel)) rfl
theorem gw_m_RE_62 : Cond.methodLink RRE 62 yy_RE_readFeast ∈ gtb := gtb_of (List.mem_of_getElem? (i := 603) (by decide +kernel)) rfl
theorem gw_m_RE_70 : Cond.methodLink RRE 70 yy_RE_readDay ∈ gtb := gtb_of (List.mem_of_getElem? (i := 609) (by decide +kernel)) rfl
theorem gw_m_RE_75 : Cond.methodLink RRE 75 yy_RE_readBoil ∈ gtb := gtb_of (List.mem_of_getElem? (i := 614) (by decide +kernel)) rfl
theorem gw_m_RE_130 : Cond.methodLink RRE 130 yy_SH_boilNow ∈ gtb := gtb_of (List.mem_of_getElem? (i := 618) (by decide +kernel)) rfl
theorem gw_m_GG_148 : Cond.methodLink RGG 148 yy_SH_copyFrom ∈ gtb := gtb_of (List.mem_of_getElem? (i := 619) (by decide +kernel)) rfl
theorem gw_m_SH_60 : Cond.methodLink RSH 60 yy_LE_copyFrom ∈ gtb := gtb_of (List.mem_of_getElem? (i := 623) (by decide +kernel)) rfl
theorem gw_m_LE_39 : Cond.methodLink RLE 39 arraycopyName ∈ gtb := gtb_of (List.mem_of_getElem? (i := 627) (by decide +kernel)) rfl
theorem gw_m_GG_152 : Cond.methodLink RGG 152 yy_SH_renewAllGriefs ∈ gtb := gtb_of (List.mem_of_getElem? (i := 628) (by decide +kernel)) rfl
theorem gw_m_LA_64 : Cond.methodLink RLA 64 yy_GG_grief ∈ gtb := gtb_of (List.mem_of_getElem? (i := 633) (by decide +kernel)) rfl
theorem gw_m_GG_155 : Cond.methodLink RGG 155 yy_SH_griefOn ∈ gtb := gtb_of (List.mem_of_getElem? (i := 637) (by decide +kernel)) rfl
theorem gw_m_SH_105 : Cond.methodLinkNest RSH 105 yy_GG_isWithin RGG ∈ nst := nst_of (List.mem_of_getElem? (i := 641) (by decide +kernel)) rfl
theorem gw_m_LA_68 : Cond.methodLink RLA 68 yy_GG_opens ∈ gtb := gtb_of (List.mem_of_getElem? (i := 642) (by decide +kernel)) rfl
theorem gw_m_LA_72 : Cond.methodLink RLA 72 yy_GG_lasts ∈ gtb := gtb_of (List.mem_of_getElem? (i := 646) (by decide +kernel)) rfl
theorem gw_m_GG_159 : Cond.methodLink RGG 159 yy_SH_isLasting ∈ gtb := gtb_of (List.mem_of_getElem? (i := 650) (by decide +kernel)) rfl
theorem gw_m_SH_134 : Cond.methodLink RSH 134 yy_SH_isPartOf ∈ gtb := gtb_of (List.mem_of_getElem? (i := 654) (by decide +kernel)) rfl
theorem gw_m_LA_76 : Cond.methodLink RLA 76 yy_GG_open ∈ gtb := gtb_of (List.mem_of_getElem? (i := 658) (by decide +kernel)) rfl
theorem gw_m_LA_80 : Cond.methodLink RLA 80 yy_GG_hire ∈ gtb := gtb_of (List.mem_of_getElem? (i := 662) (by decide +kernel)) rfl
theorem gw_m_GG_162 : Cond.methodLink RGG 162 yy_HI_lookAt ∈ gtb := gtb_of (List.mem_of_getElem? (i := 666) (by decide +kernel)) rfl
theorem gw_m_HI_34 : Cond.methodLink RHI 34 yy_MA_min ∈ gtb := gtb_of (List.mem_of_getElem? (i := 670) (by decide +kernel)) rfl
theorem gw_m_HI_42 : Cond.methodLink RHI 42 yy_LE_at ∈ gtb := gtb_of (List.mem_of_getElem? (i := 671) (by decide +kernel)) rfl
theorem gw_m_HI_45 : Cond.methodLink RHI 45 yy_HI_lookForNeeds ∈ gtb := gtb_of (List.mem_of_getElem? (i := 672) (by decide +kernel)) rfl
theorem gw_m_HI_53 : Cond.methodLink RHI 53 yy_AR_fillI ∈ gtb := gtb_of (List.mem_of_getElem? (i := 676) (by decide +kernel)) rfl
theorem gw_m_HI_62 : Cond.methodLink RHI 62 yy_SH_isLasting ∈ gtb := gtb_of (List.mem_of_getElem? (i := 677) (by decide +kernel)) rfl
theorem gw_m_HI_69 : Cond.methodLink RHI 69 yy_MA_max ∈ gtb := gtb_of (List.mem_of_getElem? (i := 678) (by decide +kernel)) rfl
theorem gw_m_HI_72 : Cond.methodLink RHI 72 yy_SH_isPartOf ∈ gtb := gtb_of (List.mem_of_getElem? (i := 679) (by decide +kernel)) rfl
theorem gw_m_HI_49 : Cond.methodLink RHI 49 yy_HI_fitsOf ∈ gtb := gtb_of (List.mem_of_getElem? (i := 680) (by decide +kernel)) rfl
theorem gw_m_HI_79 : Cond.methodLink RHI 79 yy_SH_griefsOf ∈ gtb := gtb_of (List.mem_of_getElem? (i := 684) (by decide +kernel)) rfl
theorem gw_m_HI_83 : Cond.methodLink RHI 83 yy_SH_firstWeakDay ∈ gtb := gtb_of (List.mem_of_getElem? (i := 685) (by decide +kernel)) rfl
theorem gw_m_HI_87 : Cond.methodLink RHI 87 yy_HI_pairBit ∈ gtb := gtb_of (List.mem_of_getElem? (i := 686) (by decide +kernel)) rfl
theorem gw_m_GG_165 : Cond.methodLink RGG 165 yy_HI_cheapest ∈ gtb := gtb_of (List.mem_of_getElem? (i := 689) (by decide +kernel)) rfl
theorem gw_m_HI_95 : Cond.methodLink RHI 95 yy_HI_isIn ∈ gtb := gtb_of (List.mem_of_getElem? (i := 693) (by decide +kernel)) rfl
theorem gw_m_HI_98 : Cond.methodLink RHI 98 yy_HI_priceOf ∈ gtb := gtb_of (List.mem_of_getElem? (i := 696) (by decide +kernel)) rfl
theorem gw_m_HI_102 : Cond.methodLink RHI 102 yy_HI_isEnough ∈ gtb := gtb_of (List.mem_of_getElem? (i := 700) (by decide +kernel)) rfl
theorem gw_m_HI_105 : Cond.methodLink RHI 105 yy_HI_boilersFor ∈ gtb := gtb_of (List.mem_of_getElem? (i := 704) (by decide +kernel)) rfl
theorem gw_m_HI_91 : Cond.methodLinkNest RHI 91 yy_GG_isWithin RGG ∈ nst := nst_of (List.mem_of_getElem? (i := 708) (by decide +kernel)) rfl
theorem gw_m_GG_168 : Cond.methodLink RGG 168 yy_HI_priceOf ∈ gtb := gtb_of (List.mem_of_getElem? (i := 709) (by decide +kernel)) rfl
theorem gw_m_LA_84 : Cond.methodLink RLA 84 yy_GG_who ∈ gtb := gtb_of (List.mem_of_getElem? (i := 710) (by decide +kernel)) rfl
theorem gw_m_GG_171 : Cond.methodLink RGG 171 yy_HI_isNeedy ∈ gtb := gtb_of (List.mem_of_getElem? (i := 714) (by decide +kernel)) rfl
theorem gw_m_GG_174 : Cond.methodLink RGG 174 yy_HI_boilersFor ∈ gtb := gtb_of (List.mem_of_getElem? (i := 718) (by decide +kernel)) rfl
theorem gw_m_LA_88 : Cond.methodLink RLA 88 yy_GG_saves ∈ gtb := gtb_of (List.mem_of_getElem? (i := 719) (by decide +kernel)) rfl
theorem gw_m_LA_92 : Cond.methodLink RLA 92 yy_GG_tears ∈ gtb := gtb_of (List.mem_of_getElem? (i := 723) (by decide +kernel)) rfl
theorem gw_m_GG_177 : Cond.methodLink RGG 177 yy_OU_fewestOnions ∈ gtb := gtb_of (List.mem_of_getElem? (i := 727) (by decide +kernel)) rfl
theorem gw_m_OU_37 : Cond.methodLink ROU 37 yy_SH_griefOn ∈ gtb := gtb_of (List.mem_of_getElem? (i := 731) (by decide +kernel)) rfl
theorem gw_m_OU_41 : Cond.methodLinkNest ROU 41 yy_GG_isWithin RGG ∈ nst := nst_of (List.mem_of_getElem? (i := 732) (by decide +kernel)) rfl
theorem gw_m_OU_46 : Cond.methodLink ROU 46 yy_AR_fillI ∈ gtb := gtb_of (List.mem_of_getElem? (i := 734) (by decide +kernel)) rfl
theorem gw_m_OU_52 : Cond.methodLink ROU 52 yy_SH_fillNextGriefs ∈ gtb := gtb_of (List.mem_of_getElem? (i := 735) (by decide +kernel)) rfl
theorem gw_m_OU_56 : Cond.methodLink ROU 56 yy_OU_weepADay ∈ gtb := gtb_of (List.mem_of_getElem? (i := 739) (by decide +kernel)) rfl
theorem gw_m_OU_60 : Cond.methodLink ROU 60 yy_MA_min ∈ gtb := gtb_of (List.mem_of_getElem? (i := 743) (by decide +kernel)) rfl
theorem gw_m_OU_65 : Cond.methodLink ROU 65 arraycopyName ∈ gtb := gtb_of (List.mem_of_getElem? (i := 744) (by decide +kernel)) rfl
theorem gw_m_LA_96 : Cond.methodLink RLA 96 yy_GG_fact ∈ gtb := gtb_of (List.mem_of_getElem? (i := 745) (by decide +kernel)) rfl
theorem gw_m_LA_100 : Cond.methodLink RLA 100 yy_GG_forget ∈ gtb := gtb_of (List.mem_of_getElem? (i := 749) (by decide +kernel)) rfl
theorem gw_m_LA_104 : Cond.methodLink RLA 104 yy_GG_likely ∈ gtb := gtb_of (List.mem_of_getElem? (i := 753) (by decide +kernel)) rfl
theorem gw_m_GG_184 : Cond.methodLink RGG 184 yy_OU_firstGriefs ∈ gtb := gtb_of (List.mem_of_getElem? (i := 757) (by decide +kernel)) rfl
theorem gw_m_OU_80 : Cond.methodLink ROU 80 yy_OU_isByFacts ∈ gtb := gtb_of (List.mem_of_getElem? (i := 761) (by decide +kernel)) rfl
theorem gw_m_OU_84 : Cond.methodLink ROU 84 yy_KI_stepOf ∈ gtb := gtb_of (List.mem_of_getElem? (i := 765) (by decide +kernel)) rfl
theorem gw_m_OU_95 : Cond.methodLink ROU 95 yy_LE_at ∈ gtb := gtb_of (List.mem_of_getElem? (i := 766) (by decide +kernel)) rfl
theorem gw_m_OU_98 : Cond.methodLink ROU 98 yy_SH_firstWeakDay ∈ gtb := gtb_of (List.mem_of_getElem? (i := 767) (by decide +kernel)) rfl
theorem gw_m_LA_108 : Cond.methodLink RLA 108 yy_GG_odds ∈ gtb := gtb_of (List.mem_of_getElem? (i := 768) (by decide +kernel)) rfl
theorem gw_m_GG_188 : Cond.methodLink RGG 188 yy_OU_chancesToHold ∈ gtb := gtb_of (List.mem_of_getElem? (i := 772) (by decide +kernel)) rfl
theorem gw_m_OU_71 : Cond.methodLink ROU 71 yy_AR_fillJ ∈ gtb := gtb_of (List.mem_of_getElem? (i := 776) (by decide +kernel)) rfl
theorem gw_m_OU_74 : Cond.methodLink ROU 74 yy_OU_weddingADay ∈ gtb := gtb_of (List.mem_of_getElem? (i := 779) (by decide +kernel)) rfl
theorem gw_m_OU_77 : Cond.methodLink ROU 77 yy_MA_max ∈ gtb := gtb_of (List.mem_of_getElem? (i := 783) (by decide +kernel)) rfl
theorem gw_m_GG_192 : Cond.methodLink RGG 192 yy_GG_tenTo ∈ gtb := gtb_of (List.mem_of_getElem? (i := 784) (by decide +kernel)) rfl
theorem gw_m_GG_196 : Cond.methodLink RGG 196 yy_GG_commonDivisor ∈ gtb := gtb_of (List.mem_of_getElem? (i := 788) (by decide +kernel)) rfl
theorem gw_m_LA_113 : Cond.methodLink RLA 113 yy_GG_harm ∈ gtb := gtb_of (List.mem_of_getElem? (i := 791) (by decide +kernel)) rfl
theorem gw_m_GG_203 : Cond.methodLink RGG 203 yy_OU_harmOf ∈ gtb := gtb_of (List.mem_of_getElem? (i := 795) (by decide +kernel)) rfl
theorem gw_m_OU_106 : Cond.methodLink ROU 106 yy_SH_fillGriefs ∈ gtb := gtb_of (List.mem_of_getElem? (i := 799) (by decide +kernel)) rfl
theorem gw_m_OU_112 : Cond.methodLink ROU 112 yy_SH_boiledOn ∈ gtb := gtb_of (List.mem_of_getElem? (i := 800) (by decide +kernel)) rfl
theorem gw_m_OU_116 : Cond.methodLink ROU 116 yy_SH_firstBoiler ∈ gtb := gtb_of (List.mem_of_getElem? (i := 801) (by decide +kernel)) rfl
theorem gw_m_OU_119 : Cond.methodLink ROU 119 yy_OU_griefsWithout ∈ gtb := gtb_of (List.mem_of_getElem? (i := 802) (by decide +kernel)) rfl
theorem gw_m_OU_129 : Cond.methodLink ROU 129 yy_SH_griefsOf ∈ gtb := gtb_of (List.mem_of_getElem? (i := 806) (by decide +kernel)) rfl
theorem gw_m_OU_123 : Cond.methodLink ROU 123 yy_SH_secondBoiler ∈ gtb := gtb_of (List.mem_of_getElem? (i := 807) (by decide +kernel)) rfl
theorem gw_m_OU_126 : Cond.methodLink ROU 126 yy_SH_openingOf ∈ gtb := gtb_of (List.mem_of_getElem? (i := 808) (by decide +kernel)) rfl
theorem gw_m_LA_117 : Cond.methodLink RLA 117 yy_GG_part ∈ gtb := gtb_of (List.mem_of_getElem? (i := 809) (by decide +kernel)) rfl
theorem gw_m_LA_122 : Cond.methodLink RLA 122 yy_GG_image ∈ gtb := gtb_of (List.mem_of_getElem? (i := 813) (by decide +kernel)) rfl
theorem gw_m_LA_126 : Cond.methodLink RLA 126 yy_GG_from ∈ gtb := gtb_of (List.mem_of_getElem? (i := 817) (by decide +kernel)) rfl
theorem gw_m_LA_130 : Cond.methodLink RLA 130 yy_GG_status ∈ gtb := gtb_of (List.mem_of_getElem? (i := 821) (by decide +kernel)) rfl
theorem gw_m_LA_134 : Cond.methodLink RLA 134 yy_GG_count ∈ gtb := gtb_of (List.mem_of_getElem? (i := 825) (by decide +kernel)) rfl
theorem gw_m_GG_216 : Cond.methodLink RGG 216 yy_GG_countOf ∈ gtb := gtb_of (List.mem_of_getElem? (i := 829) (by decide +kernel)) rfl
theorem gw_m_LA_138 : Cond.methodLink RLA 138 yy_GG_digest ∈ gtb := gtb_of (List.mem_of_getElem? (i := 833) (by decide +kernel)) rfl
theorem gw_m_GG_223 : Cond.methodLink RGG 223 yy_LE_mixInto ∈ gtb := gtb_of (List.mem_of_getElem? (i := 839) (by decide +kernel)) rfl
theorem gw_m_GG_227 : Cond.methodLink RGG 227 yy_SH_mixJointsInto ∈ gtb := gtb_of (List.mem_of_getElem? (i := 844) (by decide +kernel)) rfl
theorem gw_m_LA_12 : Cond.methodLink RLA 12 yy_MO_init ∈ gtb := gtb_of (List.mem_of_getElem? (i := 851) (by decide +kernel)) rfl
theorem gw_m_LA_17 : Cond.methodLink RLA 17 yy_MO_mourner ∈ gtb := gtb_of (List.mem_of_getElem? (i := 925) (by decide +kernel)) rfl
theorem gw_m_MO_64 : Cond.methodLink RMO 64 yy_MO_in ∈ gtb := gtb_of (List.mem_of_getElem? (i := 929) (by decide +kernel)) rfl
theorem gw_m_MO_72 : Cond.methodLink RMO 72 yy_MO_bad ∈ gtb := gtb_of (List.mem_of_getElem? (i := 932) (by decide +kernel)) rfl
theorem gw_m_MO_60 : Cond.methodLink RMO 60 yy_MO_get ∈ gtb := gtb_of (List.mem_of_getElem? (i := 936) (by decide +kernel)) rfl
theorem gw_m_MO_76 : Cond.methodLink RMO 76 yy_MO_full ∈ gtb := gtb_of (List.mem_of_getElem? (i := 940) (by decide +kernel)) rfl
theorem gw_m_MO_79 : Cond.methodLink RMO 79 yy_MO_addMourner ∈ gtb := gtb_of (List.mem_of_getElem? (i := 944) (by decide +kernel)) rfl
theorem gw_m_MO_68 : Cond.methodLink RMO 68 yy_MO_set ∈ gtb := gtb_of (List.mem_of_getElem? (i := 948) (by decide +kernel)) rfl
theorem gw_m_LA_22 : Cond.methodLink RLA 22 yy_MO_joint ∈ gtb := gtb_of (List.mem_of_getElem? (i := 952) (by decide +kernel)) rfl
theorem gw_m_MO_83 : Cond.methodLink RMO 83 yy_MO_addJoint ∈ gtb := gtb_of (List.mem_of_getElem? (i := 956) (by decide +kernel)) rfl
theorem gw_m_LA_27 : Cond.methodLink RLA 27 yy_MO_piece ∈ gtb := gtb_of (List.mem_of_getElem? (i := 960) (by decide +kernel)) rfl
theorem gw_m_MO_87 : Cond.methodLink RMO 87 yy_MO_isSet ∈ gtb := gtb_of (List.mem_of_getElem? (i := 964) (by decide +kernel)) rfl
theorem gw_m_MO_91 : Cond.methodLink RMO 91 yy_MO_addPiece ∈ gtb := gtb_of (List.mem_of_getElem? (i := 968) (by decide +kernel)) rfl
theorem gw_m_LA_31 : Cond.methodLink RLA 31 yy_MO_feast ∈ gtb := gtb_of (List.mem_of_getElem? (i := 972) (by decide +kernel)) rfl
theorem gw_m_MO_94 : Cond.methodLink RMO 94 yy_MO_isMourner ∈ gtb := gtb_of (List.mem_of_getElem? (i := 976) (by decide +kernel)) rfl
theorem gw_m_MO_97 : Cond.methodLink RMO 97 yy_MO_addFeast ∈ gtb := gtb_of (List.mem_of_getElem? (i := 980) (by decide +kernel)) rfl
theorem gw_m_LA_36 : Cond.methodLink RLA 36 yy_MO_skip ∈ gtb := gtb_of (List.mem_of_getElem? (i := 984) (by decide +kernel)) rfl
theorem gw_m_MO_100 : Cond.methodLink RMO 100 yy_MO_no ∈ gtb := gtb_of (List.mem_of_getElem? (i := 988) (by decide +kernel)) rfl
theorem gw_m_LA_48 : Cond.methodLink RLA 48 yy_MO_undo ∈ gtb := gtb_of (List.mem_of_getElem? (i := 992) (by decide +kernel)) rfl
theorem gw_m_LA_40 : Cond.methodLink RLA 40 yy_MO_boil ∈ gtb := gtb_of (List.mem_of_getElem? (i := 996) (by decide +kernel)) rfl
theorem gw_m_MO_103 : Cond.methodLink RMO 103 yy_MO_isJoint ∈ gtb := gtb_of (List.mem_of_getElem? (i := 1000) (by decide +kernel)) rfl
theorem gw_m_MO_106 : Cond.methodLink RMO 106 yy_MO_know ∈ gtb := gtb_of (List.mem_of_getElem? (i := 1004) (by decide +kernel)) rfl
theorem gw_m_MO_109 : Cond.methodLink RMO 109 yy_MO_boiled ∈ gtb := gtb_of (List.mem_of_getElem? (i := 1008) (by decide +kernel)) rfl
theorem gw_m_MO_112 : Cond.methodLink RMO 112 yy_MO_opensOn ∈ gtb := gtb_of (List.mem_of_getElem? (i := 1012) (by decide +kernel)) rfl
theorem gw_m_MO_189 : Cond.methodLink RMO 189 yy_MO_findGriefs ∈ gtb := gtb_of (List.mem_of_getElem? (i := 1016) (by decide +kernel)) rfl
theorem gw_m_MO_186 : Cond.methodLink RMO 186 yy_MO_onDay ∈ gtb := gtb_of (List.mem_of_getElem? (i := 1020) (by decide +kernel)) rfl
theorem gw_m_MO_179 : Cond.methodLink RMO 179 yy_MO_step ∈ gtb := gtb_of (List.mem_of_getElem? (i := 1024) (by decide +kernel)) rfl
theorem gw_m_MO_173 : Cond.methodLink RMO 173 yy_MO_less ∈ gtb := gtb_of (List.mem_of_getElem? (i := 1027) (by decide +kernel)) rfl
theorem gw_m_MO_176 : Cond.methodLink RMO 176 yy_MO_widow ∈ gtb := gtb_of (List.mem_of_getElem? (i := 1030) (by decide +kernel)) rfl
theorem gw_m_MO_183 : Cond.methodLink RMO 183 yy_MO_more ∈ gtb := gtb_of (List.mem_of_getElem? (i := 1033) (by decide +kernel)) rfl
theorem gw_m_MO_195 : Cond.methodLink RMO 195 yy_MO_opensBy ∈ gtb := gtb_of (List.mem_of_getElem? (i := 1036) (by decide +kernel)) rfl
theorem gw_m_MO_192 : Cond.methodLink RMO 192 yy_MO_strength ∈ gtb := gtb_of (List.mem_of_getElem? (i := 1040) (by decide +kernel)) rfl
theorem gw_m_LA_44 : Cond.methodLink RLA 44 yy_MO_day ∈ gtb := gtb_of (List.mem_of_getElem? (i := 1044) (by decide +kernel)) rfl
theorem gw_m_MO_115 : Cond.methodLink RMO 115 yy_MO_openNow ∈ gtb := gtb_of (List.mem_of_getElem? (i := 1048) (by decide +kernel)) rfl
theorem gw_m_MO_198 : Cond.methodLink RMO 198 yy_MO_isBoiled ∈ gtb := gtb_of (List.mem_of_getElem? (i := 1052) (by decide +kernel)) rfl
theorem gw_m_LA_55 : Cond.methodLink RLA 55 yy_MO_type ∈ gtb := gtb_of (List.mem_of_getElem? (i := 1056) (by decide +kernel)) rfl
theorem gw_m_LA_59 : Cond.methodLink RLA 59 yy_MO_clear ∈ gtb := gtb_of (List.mem_of_getElem? (i := 1061) (by decide +kernel)) rfl
theorem gw_m_LA_63 : Cond.methodLink RLA 63 yy_MO_read ∈ gtb := gtb_of (List.mem_of_getElem? (i := 1065) (by decide +kernel)) rfl
theorem gw_m_MO_147 : Cond.methodLink RMO 147 yy_MO_next ∈ gtb := gtb_of (List.mem_of_getElem? (i := 1069) (by decide +kernel)) rfl
theorem gw_m_MO_128 : Cond.methodLink RMO 128 yy_MO_here ∈ gtb := gtb_of (List.mem_of_getElem? (i := 1073) (by decide +kernel)) rfl
theorem gw_m_MO_140 : Cond.methodLink RMO 140 yy_MO_meaning ∈ gtb := gtb_of (List.mem_of_getElem? (i := 1077) (by decide +kernel)) rfl
theorem gw_m_MO_167 : Cond.methodLink RMO 167 yy_MO_readItem ∈ gtb := gtb_of (List.mem_of_getElem? (i := 1082) (by decide +kernel)) rfl
theorem gw_m_MO_158 : Cond.methodLink RMO 158 yy_MO_mayBe ∈ gtb := gtb_of (List.mem_of_getElem? (i := 1086) (by decide +kernel)) rfl
theorem gw_m_MO_154 : Cond.methodLink RMO 154 yy_MO_due ∈ gtb := gtb_of (List.mem_of_getElem? (i := 1090) (by decide +kernel)) rfl
theorem gw_m_MO_150 : Cond.methodLink RMO 150 yy_MO_isNumber ∈ gtb := gtb_of (List.mem_of_getElem? (i := 1094) (by decide +kernel)) rfl
theorem gw_m_MO_161 : Cond.methodLink RMO 161 yy_MO_readBoil ∈ gtb := gtb_of (List.mem_of_getElem? (i := 1098) (by decide +kernel)) rfl
theorem gw_m_MO_164 : Cond.methodLink RMO 164 yy_MO_readRow ∈ gtb := gtb_of (List.mem_of_getElem? (i := 1102) (by decide +kernel)) rfl
theorem gw_m_MO_170 : Cond.methodLink RMO 170 yy_MO_copy ∈ gtb := gtb_of (List.mem_of_getElem? (i := 1106) (by decide +kernel)) rfl
theorem gw_m_LA_67 : Cond.methodLink RLA 67 yy_MO_grief ∈ gtb := gtb_of (List.mem_of_getElem? (i := 1110) (by decide +kernel)) rfl
theorem gw_m_LA_71 : Cond.methodLink RLA 71 yy_MO_opens ∈ gtb := gtb_of (List.mem_of_getElem? (i := 1114) (by decide +kernel)) rfl
theorem gw_m_LA_75 : Cond.methodLink RLA 75 yy_MO_lasts ∈ gtb := gtb_of (List.mem_of_getElem? (i := 1118) (by decide +kernel)) rfl
theorem gw_m_MO_201 : Cond.methodLink RMO 201 yy_MO_isLasting ∈ gtb := gtb_of (List.mem_of_getElem? (i := 1122) (by decide +kernel)) rfl
theorem gw_m_LA_79 : Cond.methodLink RLA 79 yy_MO_open ∈ gtb := gtb_of (List.mem_of_getElem? (i := 1126) (by decide +kernel)) rfl
theorem gw_m_LA_83 : Cond.methodLink RLA 83 yy_MO_hire ∈ gtb := gtb_of (List.mem_of_getElem? (i := 1130) (by decide +kernel)) rfl
theorem gw_m_MO_213 : Cond.methodLink RMO 213 yy_MO_findNeeds ∈ gtb := gtb_of (List.mem_of_getElem? (i := 1134) (by decide +kernel)) rfl
theorem gw_m_MO_216 : Cond.methodLink RMO 216 yy_MO_hired ∈ gtb := gtb_of (List.mem_of_getElem? (i := 1138) (by decide +kernel)) rfl
theorem gw_m_MO_207 : Cond.methodLink RMO 207 yy_MO_priceOf ∈ gtb := gtb_of (List.mem_of_getElem? (i := 1142) (by decide +kernel)) rfl
theorem gw_m_MO_210 : Cond.methodLink RMO 210 yy_MO_whoOf ∈ gtb := gtb_of (List.mem_of_getElem? (i := 1146) (by decide +kernel)) rfl
theorem gw_m_MO_204 : Cond.methodLink RMO 204 yy_MO_wouldHold ∈ gtb := gtb_of (List.mem_of_getElem? (i := 1150) (by decide +kernel)) rfl
theorem gw_m_LA_87 : Cond.methodLink RLA 87 yy_MO_who ∈ gtb := gtb_of (List.mem_of_getElem? (i := 1154) (by decide +kernel)) rfl
theorem gw_m_LA_91 : Cond.methodLink RLA 91 yy_MO_saves ∈ gtb := gtb_of (List.mem_of_getElem? (i := 1158) (by decide +kernel)) rfl
theorem gw_m_LA_95 : Cond.methodLink RLA 95 yy_MO_tears ∈ gtb := gtb_of (List.mem_of_getElem? (i := 1162) (by decide +kernel)) rfl
theorem gw_m_LA_99 : Cond.methodLink RLA 99 yy_MO_fact ∈ gtb := gtb_of (List.mem_of_getElem? (i := 1166) (by decide +kernel)) rfl
theorem gw_m_LA_103 : Cond.methodLink RLA 103 yy_MO_forget ∈ gtb := gtb_of (List.mem_of_getElem? (i := 1170) (by decide +kernel)) rfl
theorem gw_m_LA_107 : Cond.methodLink RLA 107 yy_MO_likely ∈ gtb := gtb_of (List.mem_of_getElem? (i := 1174) (by decide +kernel)) rfl
theorem gw_m_MO_219 : Cond.methodLink RMO 219 yy_MO_isLikely ∈ gtb := gtb_of (List.mem_of_getElem? (i := 1178) (by decide +kernel)) rfl
theorem gw_m_LA_112 : Cond.methodLink RLA 112 yy_MO_odds ∈ gtb := gtb_of (List.mem_of_getElem? (i := 1182) (by decide +kernel)) rfl
theorem gw_m_LA_116 : Cond.methodLink RLA 116 yy_MO_harm ∈ gtb := gtb_of (List.mem_of_getElem? (i := 1187) (by decide +kernel)) rfl
theorem gw_m_LA_121 : Cond.methodLink RLA 121 yy_MO_part ∈ gtb := gtb_of (List.mem_of_getElem? (i := 1191) (by decide +kernel)) rfl
theorem gw_m_LA_125 : Cond.methodLink RLA 125 yy_MO_image ∈ gtb := gtb_of (List.mem_of_getElem? (i := 1195) (by decide +kernel)) rfl
theorem gw_m_LA_129 : Cond.methodLink RLA 129 yy_MO_from ∈ gtb := gtb_of (List.mem_of_getElem? (i := 1199) (by decide +kernel)) rfl
theorem gw_m_LA_133 : Cond.methodLink RLA 133 yy_MO_status ∈ gtb := gtb_of (List.mem_of_getElem? (i := 1203) (by decide +kernel)) rfl
theorem gw_m_LA_137 : Cond.methodLink RLA 137 yy_MO_count ∈ gtb := gtb_of (List.mem_of_getElem? (i := 1207) (by decide +kernel)) rfl
theorem gw_m_LA_142 : Cond.methodLink RLA 142 yy_MO_digest ∈ gtb := gtb_of (List.mem_of_getElem? (i := 1211) (by decide +kernel)) rfl
theorem gw_m_MO_234 : Cond.methodLink RMO 234 yy_MO_digestRow ∈ gtb := gtb_of (List.mem_of_getElem? (i := 1216) (by decide +kernel)) rfl
theorem gw_f_LE_15 : Cond.fieldLink RLE 15 RLE (TLE 0).2.1 (TLE 0).2.2.1 ∈ gtb := gtb_of (List.mem_of_getElem? (i := 107) (by decide +kernel)) rfl
theorem gw_f_LE_21 : Cond.fieldLink RLE 21 RLE (TLE 1).2.1 (TLE 1).2.2.1 ∈ gtb := gtb_of (List.mem_of_getElem? (i := 108) (by decide +kernel)) rfl
theorem gw_f_LE_24 : Cond.fieldLink RLE 24 RLE (TLE 2).2.1 (TLE 2).2.2.1 ∈ gtb := gtb_of (List.mem_of_getElem? (i := 109) (by decide +kernel)) rfl
theorem gw_f_LE_28 : Cond.fieldLink RLE 28 RLE (TLE 3).2.1 (TLE 3).2.2.1 ∈ gtb := gtb_of (List.mem_of_getElem? (i := 110) (by decide +kernel)) rfl
theorem gw_f_SH_50 : Cond.fieldLinkNest RSH 50 RLE (TLE 3).2.1 (TLE 3).2.2.1 RGG ∈ nst := nst_of (List.mem_of_getElem? (i := 111) (by decide +kernel)) rfl
theorem gw_f_HI_28 : Cond.fieldLinkNest RHI 28 RLE (TLE 3).2.1 (TLE 3).2.2.1 RGG ∈ nst := nst_of (List.mem_of_getElem? (i := 112) (by decide +kernel)) rfl
theorem gw_f_GG_96 : Cond.fieldLinkNest RGG 96 RLE (TLE 3).2.1 (TLE 3).2.2.1 RGG ∈ nst := nst_of (List.mem_of_getElem? (i := 113) (by decide +kernel)) rfl
theorem gw_f_RE_115 : Cond.fieldLinkNest RRE 115 RLE (TLE 3).2.1 (TLE 3).2.2.1 RGG ∈ nst := nst_of (List.mem_of_getElem? (i := 114) (by decide +kernel)) rfl
theorem gw_f_OU_90 : Cond.fieldLinkNest ROU 90 RLE (TLE 3).2.1 (TLE 3).2.2.1 RGG ∈ nst := nst_of (List.mem_of_getElem? (i := 115) (by decide +kernel)) rfl
theorem gw_f_SH_14 : Cond.fieldLink RSH 14 RSH (TSH 0).2.1 (TSH 0).2.2.1 ∈ gtb := gtb_of (List.mem_of_getElem? (i := 131) (by decide +kernel)) rfl
theorem gw_f_HI_22 : Cond.fieldLinkNest RHI 22 RSH (TSH 0).2.1 (TSH 0).2.2.1 RGG ∈ nst := nst_of (List.mem_of_getElem? (i := 132) (by decide +kernel)) rfl
theorem gw_f_GG_57 : Cond.fieldLinkNest RGG 57 RSH (TSH 0).2.1 (TSH 0).2.2.1 RGG ∈ nst := nst_of (List.mem_of_getElem? (i := 133) (by decide +kernel)) rfl
theorem gw_f_RE_81 : Cond.fieldLinkNest RRE 81 RSH (TSH 0).2.1 (TSH 0).2.2.1 RGG ∈ nst := nst_of (List.mem_of_getElem? (i := 134) (by decide +kernel)) rfl
theorem gw_f_SH_20 : Cond.fieldLink RSH 20 RSH (TSH 1).2.1 (TSH 1).2.2.1 ∈ gtb := gtb_of (List.mem_of_getElem? (i := 135) (by decide +kernel)) rfl
theorem gw_f_GG_74 : Cond.fieldLinkNest RGG 74 RSH (TSH 1).2.1 (TSH 1).2.2.1 RGG ∈ nst := nst_of (List.mem_of_getElem? (i := 136) (by decide +kernel)) rfl
theorem gw_f_HI_76 : Cond.fieldLinkNest RHI 76 RSH (TSH 1).2.1 (TSH 1).2.2.1 RGG ∈ nst := nst_of (List.mem_of_getElem? (i := 137) (by decide +kernel)) rfl
theorem gw_f_RE_102 : Cond.fieldLinkNest RRE 102 RSH (TSH 1).2.1 (TSH 1).2.2.1 RGG ∈ nst := nst_of (List.mem_of_getElem? (i := 138) (by decide +kernel)) rfl
theorem gw_f_OU_109 : Cond.fieldLinkNest ROU 109 RSH (TSH 1).2.1 (TSH 1).2.2.1 RGG ∈ nst := nst_of (List.mem_of_getElem? (i := 139) (by decide +kernel)) rfl
theorem gw_f_SH_23 : Cond.fieldLink RSH 23 RSH (TSH 2).2.1 (TSH 2).2.2.1 ∈ gtb := gtb_of (List.mem_of_getElem? (i := 140) (by decide +kernel)) rfl
theorem gw_f_HI_59 : Cond.fieldLinkNest RHI 59 RSH (TSH 2).2.1 (TSH 2).2.2.1 RGG ∈ nst := nst_of (List.mem_of_getElem? (i := 141) (by decide +kernel)) rfl
theorem gw_f_GG_83 : Cond.fieldLinkNest RGG 83 RSH (TSH 2).2.1 (TSH 2).2.2.1 RGG ∈ nst := nst_of (List.mem_of_getElem? (i := 142) (by decide +kernel)) rfl
theorem gw_f_RE_105 : Cond.fieldLinkNest RRE 105 RSH (TSH 2).2.1 (TSH 2).2.2.1 RGG ∈ nst := nst_of (List.mem_of_getElem? (i := 143) (by decide +kernel)) rfl
theorem gw_f_SH_26 : Cond.fieldLink RSH 26 RSH (TSH 3).2.1 (TSH 3).2.2.1 ∈ gtb := gtb_of (List.mem_of_getElem? (i := 144) (by decide +kernel)) rfl
theorem gw_f_GG_90 : Cond.fieldLinkNest RGG 90 RSH (TSH 3).2.1 (TSH 3).2.2.1 RGG ∈ nst := nst_of (List.mem_of_getElem? (i := 145) (by decide +kernel)) rfl
theorem gw_f_RE_112 : Cond.fieldLinkNest RRE 112 RSH (TSH 3).2.1 (TSH 3).2.2.1 RGG ∈ nst := nst_of (List.mem_of_getElem? (i := 146) (by decide +kernel)) rfl
theorem gw_f_OU_102 : Cond.fieldLinkNest ROU 102 RSH (TSH 3).2.1 (TSH 3).2.2.1 RGG ∈ nst := nst_of (List.mem_of_getElem? (i := 147) (by decide +kernel)) rfl
theorem gw_f_SH_29 : Cond.fieldLink RSH 29 RSH (TSH 4).2.1 (TSH 4).2.2.1 ∈ gtb := gtb_of (List.mem_of_getElem? (i := 148) (by decide +kernel)) rfl
theorem gw_f_GG_181 : Cond.fieldLinkNest RGG 181 RSH (TSH 4).2.1 (TSH 4).2.2.1 RGG ∈ nst := nst_of (List.mem_of_getElem? (i := 149) (by decide +kernel)) rfl
theorem gw_f_SH_34 : Cond.fieldLink RSH 34 RSH (TSH 5).2.1 (TSH 5).2.2.1 ∈ gtb := gtb_of (List.mem_of_getElem? (i := 150) (by decide +kernel)) rfl
theorem gw_f_SH_37 : Cond.fieldLink RSH 37 RSH (TSH 6).2.1 (TSH 6).2.2.1 ∈ gtb := gtb_of (List.mem_of_getElem? (i := 151) (by decide +kernel)) rfl
theorem gw_f_SH_41 : Cond.fieldLink RSH 41 RSH (TSH 7).2.1 (TSH 7).2.2.1 ∈ gtb := gtb_of (List.mem_of_getElem? (i := 152) (by decide +kernel)) rfl
theorem gw_f_SH_54 : Cond.fieldLink RSH 54 RSH (TSH 8).2.1 (TSH 8).2.2.1 ∈ gtb := gtb_of (List.mem_of_getElem? (i := 153) (by decide +kernel)) rfl
theorem gw_f_GG_128 : Cond.fieldLinkNest RGG 128 RSH (TSH 8).2.1 (TSH 8).2.2.1 RGG ∈ nst := nst_of (List.mem_of_getElem? (i := 154) (by decide +kernel)) rfl
theorem gw_f_OU_31 : Cond.fieldLinkNest ROU 31 RSH (TSH 9).2.1 (TSH 9).2.2.1 RGG ∈ nst := nst_of (List.mem_of_getElem? (i := 155) (by decide +kernel)) rfl
theorem gw_f_SH_57 : Cond.fieldLink RSH 57 RSH (TSH 9).2.1 (TSH 9).2.2.1 ∈ gtb := gtb_of (List.mem_of_getElem? (i := 156) (by decide +kernel)) rfl
theorem gw_f_HI_66 : Cond.fieldLinkNest RHI 66 RSH (TSH 9).2.1 (TSH 9).2.2.1 RGG ∈ nst := nst_of (List.mem_of_getElem? (i := 157) (by decide +kernel)) rfl
theorem gw_f_GG_117 : Cond.fieldLinkNest RGG 117 RSH (TSH 9).2.1 (TSH 9).2.2.1 RGG ∈ nst := nst_of (List.mem_of_getElem? (i := 158) (by decide +kernel)) rfl
theorem gw_f_RE_118 : Cond.fieldLinkNest RRE 118 RSH (TSH 9).2.1 (TSH 9).2.2.1 RGG ∈ nst := nst_of (List.mem_of_getElem? (i := 159) (by decide +kernel)) rfl
theorem gw_f_RE_9 : Cond.fieldLink RRE 9 RRE (TRE 0).2.1 (TRE 0).2.2.1 ∈ gtb := gtb_of (List.mem_of_getElem? (i := 190) (by decide +kernel)) rfl
theorem gw_f_RE_26 : Cond.fieldLink RRE 26 RRE (TRE 1).2.1 (TRE 1).2.2.1 ∈ gtb := gtb_of (List.mem_of_getElem? (i := 191) (by decide +kernel)) rfl
theorem gw_f_GG_134 : Cond.fieldLinkNest RGG 134 RRE (TRE 1).2.1 (TRE 1).2.2.1 RGG ∈ nst := nst_of (List.mem_of_getElem? (i := 192) (by decide +kernel)) rfl
theorem gw_f_RE_32 : Cond.fieldLink RRE 32 RRE (TRE 2).2.1 (TRE 2).2.2.1 ∈ gtb := gtb_of (List.mem_of_getElem? (i := 193) (by decide +kernel)) rfl
theorem gw_f_RE_15 : Cond.fieldLink RRE 15 RRE (TRE 3).2.1 (TRE 3).2.2.1 ∈ gtb := gtb_of (List.mem_of_getElem? (i := 194) (by decide +kernel)) rfl
theorem gw_f_GG_144 : Cond.fieldLinkNest RGG 144 RRE (TRE 3).2.1 (TRE 3).2.2.1 RGG ∈ nst := nst_of (List.mem_of_getElem? (i := 195) (by decide +kernel)) rfl
theorem gw_f_RE_22 : Cond.fieldLink RRE 22 RRE (TRE 4).2.1 (TRE 4).2.2.1 ∈ gtb := gtb_of (List.mem_of_getElem? (i := 196) (by decide +kernel)) rfl
theorem gw_f_GG_147 : Cond.fieldLinkNest RGG 147 RRE (TRE 4).2.1 (TRE 4).2.2.1 RGG ∈ nst := nst_of (List.mem_of_getElem? (i := 197) (by decide +kernel)) rfl
theorem gw_f_RE_38 : Cond.fieldLink RRE 38 RRE (TRE 5).2.1 (TRE 5).2.2.1 ∈ gtb := gtb_of (List.mem_of_getElem? (i := 198) (by decide +kernel)) rfl
theorem gw_f_RE_142 : Cond.fieldLink RRE 142 RRE (TRE 6).2.1 (TRE 6).2.2.1 ∈ gtb := gtb_of (List.mem_of_getElem? (i := 199) (by decide +kernel)) rfl
theorem gw_f_RE_120 : Cond.fieldLink RRE 120 RRE (TRE 7).2.1 (TRE 7).2.2.1 ∈ gtb := gtb_of (List.mem_of_getElem? (i := 200) (by decide +kernel)) rfl
theorem gw_f_HI_9 : Cond.fieldLink RHI 9 RHI (THI 0).2.1 (THI 0).2.2.1 ∈ gtb := gtb_of (List.mem_of_getElem? (i := 225) (by decide +kernel)) rfl
theorem gw_f_HI_15 : Cond.fieldLink RHI 15 RHI (THI 1).2.1 (THI 1).2.2.1 ∈ gtb := gtb_of (List.mem_of_getElem? (i := 226) (by decide +kernel)) rfl
theorem gw_f_HI_19 : Cond.fieldLink RHI 19 RHI (THI 2).2.1 (THI 2).2.2.1 ∈ gtb := gtb_of (List.mem_of_getElem? (i := 227) (by decide +kernel)) rfl
theorem gw_f_HI_40 : Cond.fieldLink RHI 40 RHI (THI 3).2.1 (THI 3).2.2.1 ∈ gtb := gtb_of (List.mem_of_getElem? (i := 228) (by decide +kernel)) rfl
theorem gw_f_OU_9 : Cond.fieldLink ROU 9 ROU (TOU 0).2.1 (TOU 0).2.2.1 ∈ gtb := gtb_of (List.mem_of_getElem? (i := 245) (by decide +kernel)) rfl
theorem gw_f_OU_15 : Cond.fieldLink ROU 15 ROU (TOU 1).2.1 (TOU 1).2.2.1 ∈ gtb := gtb_of (List.mem_of_getElem? (i := 246) (by decide +kernel)) rfl
theorem gw_f_OU_18 : Cond.fieldLink ROU 18 ROU (TOU 2).2.1 (TOU 2).2.2.1 ∈ gtb := gtb_of (List.mem_of_getElem? (i := 247) (by decide +kernel)) rfl
theorem gw_f_OU_21 : Cond.fieldLink ROU 21 ROU (TOU 3).2.1 (TOU 3).2.2.1 ∈ gtb := gtb_of (List.mem_of_getElem? (i := 248) (by decide +kernel)) rfl
theorem gw_f_OU_24 : Cond.fieldLink ROU 24 ROU (TOU 4).2.1 (TOU 4).2.2.1 ∈ gtb := gtb_of (List.mem_of_getElem? (i := 249) (by decide +kernel)) rfl
theorem gw_f_OU_28 : Cond.fieldLink ROU 28 ROU (TOU 5).2.1 (TOU 5).2.2.1 ∈ gtb := gtb_of (List.mem_of_getElem? (i := 250) (by decide +kernel)) rfl
theorem gw_f_GG_12 : Cond.fieldLink RGG 12 RGG (TGG 0).2.1 (TGG 0).2.2.1 ∈ gtb := gtb_of (List.mem_of_getElem? (i := 264) (by decide +kernel)) rfl
theorem gw_f_GG_16 : Cond.fieldLink RGG 16 RGG (TGG 1).2.1 (TGG 1).2.2.1 ∈ gtb := gtb_of (List.mem_of_getElem? (i := 265) (by decide +kernel)) rfl
theorem gw_f_GG_20 : Cond.fieldLink RGG 20 RGG (TGG 2).2.1 (TGG 2).2.2.1 ∈ gtb := gtb_of (List.mem_of_getElem? (i := 266) (by decide +kernel)) rfl
theorem gw_f_GG_27 : Cond.fieldLink RGG 27 RGG (TGG 3).2.1 (TGG 3).2.2.1 ∈ gtb := gtb_of (List.mem_of_getElem? (i := 267) (by decide +kernel)) rfl
theorem gw_f_GG_34 : Cond.fieldLink RGG 34 RGG (TGG 4).2.1 (TGG 4).2.2.1 ∈ gtb := gtb_of (List.mem_of_getElem? (i := 268) (by decide +kernel)) rfl
theorem gw_f_GG_41 : Cond.fieldLink RGG 41 RGG (TGG 5).2.1 (TGG 5).2.2.1 ∈ gtb := gtb_of (List.mem_of_getElem? (i := 269) (by decide +kernel)) rfl
theorem gw_f_GG_200 : Cond.fieldLink RGG 200 RGG (TGG 6).2.1 (TGG 6).2.2.1 ∈ gtb := gtb_of (List.mem_of_getElem? (i := 270) (by decide +kernel)) rfl
theorem gw_f_GG_45 : Cond.fieldLink RGG 45 RGG (TGG 7).2.1 (TGG 7).2.2.1 ∈ gtb := gtb_of (List.mem_of_getElem? (i := 271) (by decide +kernel)) rfl
theorem gw_f_GG_207 : Cond.fieldLink RGG 207 RGG (TGG 8).2.1 (TGG 8).2.2.1 ∈ gtb := gtb_of (List.mem_of_getElem? (i := 272) (by decide +kernel)) rfl
theorem gw_f_GG_210 : Cond.fieldLink RGG 210 RGG (TGG 9).2.1 (TGG 9).2.2.1 ∈ gtb := gtb_of (List.mem_of_getElem? (i := 273) (by decide +kernel)) rfl
theorem gw_f_GG_213 : Cond.fieldLink RGG 213 RGG (TGG 10).2.1 (TGG 10).2.2.1 ∈ gtb := gtb_of (List.mem_of_getElem? (i := 274) (by decide +kernel)) rfl
theorem gw_f_MO_7 : Cond.fieldLink RMO 7 RMO (TMO 0).2.1 (TMO 0).2.2.1 ∈ gtb := gtb_of (List.mem_of_getElem? (i := 855) (by decide +kernel)) rfl
theorem gw_f_MO_57 : Cond.fieldLink RMO 57 RMO (TMO 1).2.1 (TMO 1).2.2.1 ∈ gtb := gtb_of (List.mem_of_getElem? (i := 856) (by decide +kernel)) rfl
theorem gw_f_MO_13 : Cond.fieldLink RMO 13 RMO (TMO 2).2.1 (TMO 2).2.2.1 ∈ gtb := gtb_of (List.mem_of_getElem? (i := 857) (by decide +kernel)) rfl
theorem gw_f_MO_17 : Cond.fieldLink RMO 17 RMO (TMO 3).2.1 (TMO 3).2.2.1 ∈ gtb := gtb_of (List.mem_of_getElem? (i := 858) (by decide +kernel)) rfl
theorem gw_f_MO_224 : Cond.fieldLink RMO 224 RMO (TMO 4).2.1 (TMO 4).2.2.1 ∈ gtb := gtb_of (List.mem_of_getElem? (i := 859) (by decide +kernel)) rfl
theorem gw_f_MO_53 : Cond.fieldLink RMO 53 RMO (TMO 5).2.1 (TMO 5).2.2.1 ∈ gtb := gtb_of (List.mem_of_getElem? (i := 860) (by decide +kernel)) rfl
theorem gw_f_MO_20 : Cond.fieldLink RMO 20 RMO (TMO 6).2.1 (TMO 6).2.2.1 ∈ gtb := gtb_of (List.mem_of_getElem? (i := 861) (by decide +kernel)) rfl
theorem gw_f_MO_118 : Cond.fieldLink RMO 118 RMO (TMO 7).2.1 (TMO 7).2.2.1 ∈ gtb := gtb_of (List.mem_of_getElem? (i := 862) (by decide +kernel)) rfl
theorem gw_f_MO_123 : Cond.fieldLink RMO 123 RMO (TMO 8).2.1 (TMO 8).2.2.1 ∈ gtb := gtb_of (List.mem_of_getElem? (i := 863) (by decide +kernel)) rfl
theorem gw_f_MO_131 : Cond.fieldLink RMO 131 RMO (TMO 9).2.1 (TMO 9).2.2.1 ∈ gtb := gtb_of (List.mem_of_getElem? (i := 864) (by decide +kernel)) rfl
theorem gw_f_MO_137 : Cond.fieldLink RMO 137 RMO (TMO 10).2.1 (TMO 10).2.2.1 ∈ gtb := gtb_of (List.mem_of_getElem? (i := 865) (by decide +kernel)) rfl
theorem gw_f_MO_134 : Cond.fieldLink RMO 134 RMO (TMO 11).2.1 (TMO 11).2.2.1 ∈ gtb := gtb_of (List.mem_of_getElem? (i := 866) (by decide +kernel)) rfl
theorem gw_f_MO_144 : Cond.fieldLink RMO 144 RMO (TMO 12).2.1 (TMO 12).2.2.1 ∈ gtb := gtb_of (List.mem_of_getElem? (i := 867) (by decide +kernel)) rfl
theorem gw_f_MO_24 : Cond.fieldLink RMO 24 RMO (TMO 13).2.1 (TMO 13).2.2.1 ∈ gtb := gtb_of (List.mem_of_getElem? (i := 868) (by decide +kernel)) rfl
theorem gw_f_MO_28 : Cond.fieldLink RMO 28 RMO (TMO 14).2.1 (TMO 14).2.2.1 ∈ gtb := gtb_of (List.mem_of_getElem? (i := 869) (by decide +kernel)) rfl
theorem gw_f_MO_31 : Cond.fieldLink RMO 31 RMO (TMO 15).2.1 (TMO 15).2.2.1 ∈ gtb := gtb_of (List.mem_of_getElem? (i := 870) (by decide +kernel)) rfl
theorem gw_f_MO_34 : Cond.fieldLink RMO 34 RMO (TMO 16).2.1 (TMO 16).2.2.1 ∈ gtb := gtb_of (List.mem_of_getElem? (i := 871) (by decide +kernel)) rfl
theorem gw_f_MO_37 : Cond.fieldLink RMO 37 RMO (TMO 17).2.1 (TMO 17).2.2.1 ∈ gtb := gtb_of (List.mem_of_getElem? (i := 872) (by decide +kernel)) rfl
theorem gw_f_MO_40 : Cond.fieldLink RMO 40 RMO (TMO 18).2.1 (TMO 18).2.2.1 ∈ gtb := gtb_of (List.mem_of_getElem? (i := 873) (by decide +kernel)) rfl
theorem gw_f_MO_43 : Cond.fieldLink RMO 43 RMO (TMO 19).2.1 (TMO 19).2.2.1 ∈ gtb := gtb_of (List.mem_of_getElem? (i := 874) (by decide +kernel)) rfl
theorem gw_f_MO_47 : Cond.fieldLink RMO 47 RMO (TMO 20).2.1 (TMO 20).2.2.1 ∈ gtb := gtb_of (List.mem_of_getElem? (i := 875) (by decide +kernel)) rfl
theorem gw_f_MO_50 : Cond.fieldLink RMO 50 RMO (TMO 21).2.1 (TMO 21).2.2.1 ∈ gtb := gtb_of (List.mem_of_getElem? (i := 876) (by decide +kernel)) rfl
theorem gw_f_MO_229 : Cond.fieldLink RMO 229 RMO (TMO 22).2.1 (TMO 22).2.2.1 ∈ gtb := gtb_of (List.mem_of_getElem? (i := 877) (by decide +kernel)) rfl
theorem gw_f_ST_38 : Cond.fieldLink RST 38 RST "COMPACT_STRINGS" "Z" ∈ gtb := gtb_of (List.mem_of_getElem? (i := 520) (by decide +kernel)) rfl
theorem gw_f_ST_1053 : Cond.fieldLink RST 1053 RPR "SIOOBE_FORMATTER" "Ljava/util/function/BiFunction;" ∈ gtb := gtb_of (List.mem_of_getElem? (i := 536) (by decide +kernel)) rfl
theorem gw_f_ST_9 : Cond.fieldLink RST 9 RST "value" "[B" ∈ gtb := gtb_of (List.mem_of_getElem? (i := 1222) (by decide +kernel)) rfl
theorem gw_f_ST_15 : Cond.fieldLink RST 15 RST "coder" "B" ∈ gtb := gtb_of (List.mem_of_getElem? (i := 1223) (by decide +kernel)) rfl
theorem gw_k_IN_265 : Cond.constant RIN 265 (1431655765) ∈ gtb := gtb_of (List.mem_of_getElem? (i := 454) (by decide +kernel)) rfl
theorem gw_k_IN_266 : Cond.constant RIN 266 (858993459) ∈ gtb := gtb_of (List.mem_of_getElem? (i := 455) (by decide +kernel)) rfl
theorem gw_k_IN_267 : Cond.constant RIN 267 (252645135) ∈ gtb := gtb_of (List.mem_of_getElem? (i := 456) (by decide +kernel)) rfl
theorem gw_k_OU_45 : Cond.constant ROU 45 (1000000) ∈ gtb := gtb_of (List.mem_of_getElem? (i := 733) (by decide +kernel)) rfl
theorem gw_k_MO_126 : Cond.constant RMO 126 (194934254) ∈ gtb := gtb_of (List.mem_of_getElem? (i := 1080) (by decide +kernel)) rfl
theorem gw_k_MO_127 : Cond.constant RMO 127 (332763971) ∈ gtb := gtb_of (List.mem_of_getElem? (i := 1081) (by decide +kernel)) rfl
theorem gw_k_GG_230 : Cond.constantLong RGG 230 (10) ∈ gtb := gtb_of (List.mem_of_getElem? (i := 787) (by decide +kernel)) rfl
theorem gw_k_GG_219 : Cond.constantLong RGG 219 (797) ∈ gtb := gtb_of (List.mem_of_getElem? (i := 837) (by decide +kernel)) rfl
theorem gw_k_GG_221 : Cond.constantLong RGG 221 (31) ∈ gtb := gtb_of (List.mem_of_getElem? (i := 838) (by decide +kernel)) rfl
theorem gw_k_LE_45 : Cond.constantLong RLE 45 (31) ∈ gtb := gtb_of (List.mem_of_getElem? (i := 843) (by decide +kernel)) rfl
theorem gw_k_SH_138 : Cond.constantLong RSH 138 (31) ∈ gtb := gtb_of (List.mem_of_getElem? (i := 848) (by decide +kernel)) rfl
theorem gw_k_MO_121 : Cond.constantLong RMO 121 (255) ∈ gtb := gtb_of (List.mem_of_getElem? (i := 1060) (by decide +kernel)) rfl
theorem gw_k_MO_222 : Cond.constantLong RMO 222 (10) ∈ gtb := gtb_of (List.mem_of_getElem? (i := 1186) (by decide +kernel)) rfl
theorem gw_k_MO_232 : Cond.constantLong RMO 232 (797) ∈ gtb := gtb_of (List.mem_of_getElem? (i := 1215) (by decide +kernel)) rfl
theorem gw_k_MO_227 : Cond.constantLong RMO 227 (31) ∈ gtb := gtb_of (List.mem_of_getElem? (i := 1220) (by decide +kernel)) rfl
theorem gw_k_LA_49 : Cond.constantLong RLA 49 (4294967295) ∈ gtb := gtb_of (List.mem_of_getElem? (i := 1221) (by decide +kernel)) rfl
theorem ig_HI : ∀ w ∈ u_ws RHI THI 4, w ∈ gtb := fun w h => gtb_of (iw_HI w h) ((by decide +kernel : ∀ w ∈ u_ws RHI THI 4, goodWord w = true) w h)
theorem ig_LE : ∀ w ∈ u_ws RLE TLE 4, w ∈ gtb := fun w h => gtb_of (iw_LE w h) ((by decide +kernel : ∀ w ∈ u_ws RLE TLE 4, goodWord w = true) w h)
theorem ig_OU : ∀ w ∈ u_ws ROU TOU 6, w ∈ gtb := fun w h => gtb_of (iw_OU w h) ((by decide +kernel : ∀ w ∈ u_ws ROU TOU 6, goodWord w = true) w h)
theorem ig_RE : ∀ w ∈ u_ws RRE TRE 8, w ∈ gtb := fun w h => gtb_of (iw_RE w h) ((by decide +kernel : ∀ w ∈ u_ws RRE TRE 8, goodWord w = true) w h)
theorem ig_SH : ∀ w ∈ u_ws RSH TSH 10, w ∈ gtb := fun w h => gtb_of (iw_SH w h) ((by decide +kernel : ∀ w ∈ u_ws RSH TSH 10, goodWord w = true) w h)
theorem ig_GG : ∀ w ∈ u_ws RGG TGG 11, w ∈ gtb := fun w h => gtb_of (iw_GG w h) ((by decide +kernel : ∀ w ∈ u_ws RGG TGG 11, goodWord w = true) w h)
theorem ig_MO : ∀ w ∈ u_ws RMO TMO 23, w ∈ gtb := fun w h => gtb_of (iw_MO w h) ((by decide +kernel : ∀ w ∈ u_ws RMO TMO 23, goodWord w = true) w h)
theorem tp_0_0 {q : Nat} (h : isO ixC q 0) : isO ixC (rf q 0) 20 := (by decide +kernel : ∀ q ∈ ixC, kd q = 0 → rf q 0 ∈ ixC ∧ kd (rf q 0) = 20) q h.1 h.2
theorem tp_0_1 {q : Nat} (h : isO ixC q 0) : isO ixC (rf q 1) 23 := (by decide +kernel : ∀ q ∈ ixC, kd q = 0 → rf q 1 ∈ ixC ∧ kd (rf q 1) = 23) q h.1 h.2
theorem tp_0_2 {q : Nat} (h : isO ixC q 0) : isO ixC (rf q 2) 20 := (by decide +kernel : ∀ q ∈ ixC, kd q = 0 → rf q 2 ∈ ixC ∧ kd (rf q 2) = 20) q h.1 h.2
theorem tp_1_2 {q : Nat} (h : isO ixC q 1) : isO ixC (rf q 2) 20 := (by decide +kernel : ∀ q ∈ ixC, kd q = 1 → rf q 2 ∈ ixC ∧ kd (rf q 2) = 20) q h.1 h.2
theorem tp_2_0 {q : Nat} (h : isO ixC q 2) : isO ixC (rf q 0) 20 := (by decide +kernel : ∀ q ∈ ixC, kd q = 2 → rf q 0 ∈ ixC ∧ kd (rf q 0) = 20) q h.1 h.2
theorem tp_2_1 {q : Nat} (h : isO ixC q 2) : isO ixC (rf q 1) 20 := (by decide +kernel : ∀ q ∈ ixC, kd q = 2 → rf q 1 ∈ ixC ∧ kd (rf q 1) = 20) q h.1 h.2
theorem tp_2_2 {q : Nat} (h : isO ixC q 2) : isO ixC (rf q 2) 20 := (by decide +kernel : ∀ q ∈ ixC, kd q = 2 → rf q 2 ∈ ixC ∧ kd (rf q 2) = 20) q h.1 h.2
theorem tp_2_3 {q : Nat} (h : isO ixC q 2) : isO ixC (rf q 3) 20 := (by decide +kernel : ∀ q ∈ ixC, kd q = 2 → rf q 3 ∈ ixC ∧ kd (rf q 3) = 20) q h.1 h.2
theorem tp_2_4 {q : Nat} (h : isO ixC q 2) : isO ixC (rf q 4) 23 := (by decide +kernel : ∀ q ∈ ixC, kd q = 2 → rf q 4 ∈ ixC ∧ kd (rf q 4) = 23) q h.1 h.2
theorem tp_2_5 {q : Nat} (h : isO ixC q 2) : isO ixC (rf q 5) 23 := (by decide +kernel : ∀ q ∈ ixC, kd q = 2 → rf q 5 ∈ ixC ∧ kd (rf q 5) = 23) q h.1 h.2
theorem tp_3_0 {q : Nat} (h : isO ixC q 3) : isO ixC (rf q 0) 20 := (by decide +kernel : ∀ q ∈ ixC, kd q = 3 → rf q 0 ∈ ixC ∧ kd (rf q 0) = 20) q h.1 h.2
theorem tp_3_4 {q : Nat} (h : isO ixC q 3) : isO ixC (rf q 4) 4 := (by decide +kernel : ∀ q ∈ ixC, kd q = 3 → rf q 4 ∈ ixC ∧ kd (rf q 4) = 4) q h.1 h.2
theorem tp_4_0 {q : Nat} (h : isO ixC q 4) : isO ixC (rf q 0) 1 := (by decide +kernel : ∀ q ∈ ixC, kd q = 4 → rf q 0 ∈ ixC ∧ kd (rf q 0) = 1) q h.1 h.2
theorem tp_4_1 {q : Nat} (h : isO ixC q 4) : isO ixC (rf q 1) 1 := (by decide +kernel : ∀ q ∈ ixC, kd q = 4 → rf q 1 ∈ ixC ∧ kd (rf q 1) = 1) q h.1 h.2
theorem tp_4_2 {q : Nat} (h : isO ixC q 4) : isO ixC (rf q 2) 1 := (by decide +kernel : ∀ q ∈ ixC, kd q = 4 → rf q 2 ∈ ixC ∧ kd (rf q 2) = 1) q h.1 h.2
theorem tp_4_3 {q : Nat} (h : isO ixC q 4) : isO ixC (rf q 3) 1 := (by decide +kernel : ∀ q ∈ ixC, kd q = 4 → rf q 3 ∈ ixC ∧ kd (rf q 3) = 1) q h.1 h.2
theorem tp_4_4 {q : Nat} (h : isO ixC q 4) : isO ixC (rf q 4) 1 := (by decide +kernel : ∀ q ∈ ixC, kd q = 4 → rf q 4 ∈ ixC ∧ kd (rf q 4) = 1) q h.1 h.2
theorem tp_4_5 {q : Nat} (h : isO ixC q 4) : isO ixC (rf q 5) 25 := (by decide +kernel : ∀ q ∈ ixC, kd q = 4 → rf q 5 ∈ ixC ∧ kd (rf q 5) = 25) q h.1 h.2
theorem tp_4_6 {q : Nat} (h : isO ixC q 4) : isO ixC (rf q 6) 20 := (by decide +kernel : ∀ q ∈ ixC, kd q = 4 → rf q 6 ∈ ixC ∧ kd (rf q 6) = 20) q h.1 h.2
theorem tp_4_7 {q : Nat} (h : isO ixC q 4) : isO ixC (rf q 7) 20 := (by decide +kernel : ∀ q ∈ ixC, kd q = 4 → rf q 7 ∈ ixC ∧ kd (rf q 7) = 20) q h.1 h.2
theorem tp_5_0 {q : Nat} (h : isO ixC q 5) : isO ixC (rf q 0) 4 := (by decide +kernel : ∀ q ∈ ixC, kd q = 5 → rf q 0 ∈ ixC ∧ kd (rf q 0) = 4) q h.1 h.2
theorem tp_5_1 {q : Nat} (h : isO ixC q 5) : isO ixC (rf q 1) 24 := (by decide +kernel : ∀ q ∈ ixC, kd q = 5 → rf q 1 ∈ ixC ∧ kd (rf q 1) = 24) q h.1 h.2
theorem tp_5_2 {q : Nat} (h : isO ixC q 5) : isO ixC (rf q 2) 22 := (by decide +kernel : ∀ q ∈ ixC, kd q = 5 → rf q 2 ∈ ixC ∧ kd (rf q 2) = 22) q h.1 h.2
theorem tp_5_3 {q : Nat} (h : isO ixC q 5) : isO ixC (rf q 3) 3 := (by decide +kernel : ∀ q ∈ ixC, kd q = 5 → rf q 3 ∈ ixC ∧ kd (rf q 3) = 3) q h.1 h.2
theorem tp_5_4 {q : Nat} (h : isO ixC q 5) : isO ixC (rf q 4) 0 := (by decide +kernel : ∀ q ∈ ixC, kd q = 5 → rf q 4 ∈ ixC ∧ kd (rf q 4) = 0) q h.1 h.2
theorem tp_5_5 {q : Nat} (h : isO ixC q 5) : isO ixC (rf q 5) 2 := (by decide +kernel : ∀ q ∈ ixC, kd q = 5 → rf q 5 ∈ ixC ∧ kd (rf q 5) = 2) q h.1 h.2
theorem tp_6_0 {q : Nat} (h : isO ixM q 6) : isO ixM (rf q 0) 20 := (by decide +kernel : ∀ q ∈ ixM, kd q = 6 → rf q 0 ∈ ixM ∧ kd (rf q 0) = 20) q h.1 h.2
theorem tp_6_2 {q : Nat} (h : isO ixM q 6) : isO ixM (rf q 2) 22 := (by decide +kernel : ∀ q ∈ ixM, kd q = 6 → rf q 2 ∈ ixM ∧ kd (rf q 2) = 22) q h.1 h.2
theorem tp_6_3 {q : Nat} (h : isO ixM q 6) : isO ixM (rf q 3) 20 := (by decide +kernel : ∀ q ∈ ixM, kd q = 6 → rf q 3 ∈ ixM ∧ kd (rf q 3) = 20) q h.1 h.2
theorem tp_6_6 {q : Nat} (h : isO ixM q 6) : isO ixM (rf q 6) 21 := (by decide +kernel : ∀ q ∈ ixM, kd q = 6 → rf q 6 ∈ ixM ∧ kd (rf q 6) = 21) q h.1 h.2
theorem tp_6_14 {q : Nat} (h : isO ixM q 6) : isO ixM (rf q 14) 20 := (by decide +kernel : ∀ q ∈ ixM, kd q = 6 → rf q 14 ∈ ixM ∧ kd (rf q 14) = 20) q h.1 h.2
theorem tp_6_15 {q : Nat} (h : isO ixM q 6) : isO ixM (rf q 15) 20 := (by decide +kernel : ∀ q ∈ ixM, kd q = 6 → rf q 15 ∈ ixM ∧ kd (rf q 15) = 20) q h.1 h.2
theorem tp_6_16 {q : Nat} (h : isO ixM q 6) : isO ixM (rf q 16) 20 := (by decide +kernel : ∀ q ∈ ixM, kd q = 6 → rf q 16 ∈ ixM ∧ kd (rf q 16) = 20) q h.1 h.2
theorem tp_6_17 {q : Nat} (h : isO ixM q 6) : isO ixM (rf q 17) 20 := (by decide +kernel : ∀ q ∈ ixM, kd q = 6 → rf q 17 ∈ ixM ∧ kd (rf q 17) = 20) q h.1 h.2
theorem tp_6_18 {q : Nat} (h : isO ixM q 6) : isO ixM (rf q 18) 20 := (by decide +kernel : ∀ q ∈ ixM, kd q = 6 → rf q 18 ∈ ixM ∧ kd (rf q 18) = 20) q h.1 h.2
theorem tp_6_19 {q : Nat} (h : isO ixM q 6) : isO ixM (rf q 19) 23 := (by decide +kernel : ∀ q ∈ ixM, kd q = 6 → rf q 19 ∈ ixM ∧ kd (rf q 19) = 23) q h.1 h.2
theorem tp_6_20 {q : Nat} (h : isO ixM q 6) : isO ixM (rf q 20) 23 := (by decide +kernel : ∀ q ∈ ixM, kd q = 6 → rf q 20 ∈ ixM ∧ kd (rf q 20) = 23) q h.1 h.2
theorem tp_6_21 {q : Nat} (h : isO ixM q 6) : isO ixM (rf q 21) 20 := (by decide +kernel : ∀ q ∈ ixM, kd q = 6 → rf q 21 ∈ ixM ∧ kd (rf q 21) = 20) q h.1 h.2
theorem tp_24 {q : Nat} {i : Int32} (h : isO ixC q 24) (hi : ixb i (ln q) = true) : isO ixC (rf q (ix i)) 4 := (by decide +kernel : ∀ q ∈ ixC, kd q = 24 → ∀ j, j < ln q → rf q j ∈ ixC ∧ kd (rf q j) = 4) q h.1 h.2 (ix i) (ix_lt hi)
theorem tp_25 {q : Nat} {i : Int32} (h : isO ixC q 25) (hi : ixb i (ln q) = true) : isO ixC (rf q (ix i)) 20 := (by decide +kernel : ∀ q ∈ ixC, kd q = 25 → ∀ j, j < ln q → rf q j ∈ ixC ∧ kd (rf q j) = 20) q h.1 h.2 (ix i) (ix_lt hi)
section Rows2
variable {p : Program} {l : Launch} {e : Env} {R : Room} {s : State} {m : MethodId} {args : Array Value} {below : List Frame} {meth : Method} {c : Code} {H : Heap} {locs : List Loc} {cells slots : Nat} {Q : State → Prop}
variable {cc : ByteArray} {pc : Nat} {ls : Array Slot} {rest : List Value} {E : Ev} {A : Nat → Prop} {ad : Nat → Nat} {js : List Nat} {x y : St} {own : String} {nL : Nat} {rt : Option FieldType}
theorem tpi {v w : Int32} (h : v = w) (k : W p l e R s m args below meth c H locs cells slots Q (F0 m pc ls (.int w :: rest))) : W p l e R s m args below meth c H locs cells slots Q (F0 m pc ls (.int v :: rest)) := h ▸ k
theorem tpj {v w : Int64} (h : v = w) (k : W p l e R s m args below meth c H locs cells slots Q (F0 m pc ls (.long w :: rest))) : W p l e R s m args below meth c H locs cells slots Q (F0 m pc ls (.long v :: rest)) := h ▸ k
theorem sI (C0 : Cx E A own cc nL rt p s m args meth c) (hap : Ap ad js A) (hP : Wd E ad js x H) (hS : va_S A s.heap H locs) {q : Nat} (ho : isO js q 20) {i v : Int32} (hi : ixb i (ln q) = true) (hy : si x q (ix i) v = y) (hdg : decode cc pc = .ok (.iastore, 1))
    (kk : ∀ H1 locs1, Wd E ad js y H1 → va_S A s.heap H1 locs1 → W p l e R s m args below meth c H1 locs1 cells slots Q (F0 m (pc + 1) ls rest)) : W p l e R s m args below meth c H locs cells slots Q (F0 m pc ls (.int v :: .int i :: .ref (ad q) :: rest)) := by
  subst hy; exact rsI C0 hap hP hS ho hi hdg kk
theorem sB (C0 : Cx E A own cc nL rt p s m args meth c) (hap : Ap ad js A) (hP : Wd E ad js x H) (hS : va_S A s.heap H locs) {q : Nat} (ho : isO js q 21) {i v : Int32} (hi : ixb i (ln q) = true) (hy : si x q (ix i) (vp_nar .byte v) = y) (hdg : decode cc pc = .ok (.bastore, 1))
    (kk : ∀ H1 locs1, Wd E ad js y H1 → va_S A s.heap H1 locs1 → W p l e R s m args below meth c H1 locs1 cells slots Q (F0 m (pc + 1) ls rest)) : W p l e R s m args below meth c H locs cells slots Q (F0 m pc ls (.int v :: .int i :: .ref (ad q) :: rest)) := by
  subst hy; exact rsB C0 hap hP hS ho hi hdg kk
theorem sZ (C0 : Cx E A own cc nL rt p s m args meth c) (hap : Ap ad js A) (hP : Wd E ad js x H) (hS : va_S A s.heap H locs) {q : Nat} (ho : isO js q 22) {i v : Int32} (hi : ixb i (ln q) = true) (hy : si x q (ix i) (vp_nar .boolean v) = y) (hdg : decode cc pc = .ok (.bastore, 1))
    (kk : ∀ H1 locs1, Wd E ad js y H1 → va_S A s.heap H1 locs1 → W p l e R s m args below meth c H1 locs1 cells slots Q (F0 m (pc + 1) ls rest)) : W p l e R s m args below meth c H locs cells slots Q (F0 m pc ls (.int v :: .int i :: .ref (ad q) :: rest)) := by
  subst hy; exact rsZ C0 hap hP hS ho hi hdg kk
theorem sL (C0 : Cx E A own cc nL rt p s m args meth c) (hap : Ap ad js A) (hP : Wd E ad js x H) (hS : va_S A s.heap H locs) {q : Nat} (ho : isO js q 23) {i : Int32} {v : Int64} (hi : ixb i (ln q) = true) (hy : sl x q (ix i) v = y) (hdg : decode cc pc = .ok (.lastore, 1))
    (kk : ∀ H1 locs1, Wd E ad js y H1 → va_S A s.heap H1 locs1 → W p l e R s m args below meth c H1 locs1 cells slots Q (F0 m (pc + 1) ls rest)) : W p l e R s m args below meth c H locs cells slots Q (F0 m pc ls (.long v :: .int i :: .ref (ad q) :: rest)) := by
  subst hy; exact rsL C0 hap hP hS ho hi hdg kk
theorem rmax (C0 : Cx E A own cc nL rt p s m args meth c) {index : Nat} {x y : Int32} (hls : ls.size = nL) (hl : Cond.methodLink own index yy_MA_max ∈ gtb) (hroom : (rest.map fun v => v.category).sum ≤ 8) (hR : 1 ≤ R.frames ∧ 21 ≤ R.locals) (hf : cells ≤ R.cells ∧ slots ≤ R.slots) (hdg : decode cc pc = .ok (.invokestatic index, 3))
    (kk : W p l e R s m args below meth c H locs cells slots Q (F0 m (pc + 3) ls (.int (imax x y) :: rest))) : W p l e R s m args below meth c H locs cells slots Q (F0 m pc ls (.int y :: .int x :: rest)) := by
  obtain ⟨hx, hb, hml, -, hown, hts, -, hK⟩ := C0
  exact va_mmax hx hb (hml.trans hls.symm) hown (hts _ hl) (hts _ gw_static_MA_max) (hts _ gw_ini_MA) (hts _ gw_code_MA_max) hR.1 (by omega) hf.1 hf.2 hdg kk
theorem rmin (C0 : Cx E A own cc nL rt p s m args meth c) {index : Nat} {x y : Int32} (hls : ls.size = nL) (hl : Cond.methodLink own index yy_MA_min ∈ gtb) (hroom : (rest.map fun v => v.category).sum ≤ 8) (hR : 1 ≤ R.frames ∧ 21 ≤ R.locals) (hf : cells ≤ R.cells ∧ slots ≤ R.slots) (hdg : decode cc pc = .ok (.invokestatic index, 3))
    (kk : W p l e R s m args below meth c H locs cells slots Q (F0 m (pc + 3) ls (.int (imin x y) :: rest))) : W p l e R s m args below meth c H locs cells slots Q (F0 m pc ls (.int y :: .int x :: rest)) := by
  obtain ⟨hx, hb, hml, -, hown, hts, -, hK⟩ := C0
  exact va_mmin hx hb (hml.trans hls.symm) hown (hts _ hl) (hts _ gw_static_MA_min) (hts _ gw_ini_MA) (hts _ gw_code_MA_min) hR.1 (by omega) hf.1 hf.2 hdg kk
theorem cpI (C0 : Cx E A own cc nL rt p s m args meth c) (hap : Ap ad js A) (hP : Wd E ad js x H) (hS : va_S A s.heap H locs) {q d index : Nat} (ho : isO js q 20) (ho2 : isO js d 20) {sp dp n : Int32} (h1 : spb sp n (ln q) = true) (h2 : spb dp n (ln d) = true) (hy : cpi x q (ix sp) d (ix dp) (ix n) = y) (hls : ls.size = nL) (hl : Cond.methodLink own index arraycopyName ∈ gtb) (hroom : (rest.map fun v => v.category).sum ≤ 8) (hR : 1 ≤ R.frames ∧ 26 ≤ R.locals) (hdg : decode cc pc = .ok (.invokestatic index, 3))
    (kk : ∀ H1 locs1, Wd E ad js y H1 → va_S A s.heap H1 locs1 → W p l e R s m args below meth c H1 locs1 cells slots Q (F0 m (pc + 3) ls rest)) : W p l e R s m args below meth c H locs cells slots Q (F0 m pc ls (.int n :: .int dp :: .ref (ad d) :: .int sp :: .ref (ad q) :: rest)) := by
  subst hy
  refine rcpI C0 hap hP hS ho ho2 h1 h2 hls hl gw_native gw_static_SY_arraycopy gw_ini_SY hR.1 ?_ hdg kk
  have e : nativeFrameWords "java/lang/System" "arraycopy" 5 = 7 := by decide
  omega
theorem cpL (C0 : Cx E A own cc nL rt p s m args meth c) (hap : Ap ad js A) (hP : Wd E ad js x H) (hS : va_S A s.heap H locs) {q d index : Nat} (ho : isO js q 23) (ho2 : isO js d 23) {sp dp n : Int32} (h1 : spb sp n (ln q) = true) (h2 : spb dp n (ln d) = true) (hy : cpl x q (ix sp) d (ix dp) (ix n) = y) (hls : ls.size = nL) (hl : Cond.methodLink own index arraycopyName ∈ gtb) (hroom : (rest.map fun v => v.category).sum ≤ 8) (hR : 1 ≤ R.frames ∧ 26 ≤ R.locals) (hdg : decode cc pc = .ok (.invokestatic index, 3))
    (kk : ∀ H1 locs1, Wd E ad js y H1 → va_S A s.heap H1 locs1 → W p l e R s m args below meth c H1 locs1 cells slots Q (F0 m (pc + 3) ls rest)) : W p l e R s m args below meth c H locs cells slots Q (F0 m pc ls (.int n :: .int dp :: .ref (ad d) :: .int sp :: .ref (ad q) :: rest)) := by
  subst hy
  refine rcpL C0 hap hP hS ho ho2 h1 h2 hls hl gw_native gw_static_SY_arraycopy gw_ini_SY hR.1 ?_ hdg kk
  have e : nativeFrameWords "java/lang/System" "arraycopy" 5 = 7 := by decide
  omega
end Rows2
section FieldRows
variable {p : Program} {l : Launch} {e : Env} {R : Room} {s : State} {m : MethodId} {args : Array Value} {below : List Frame} {meth : Method} {c : Code} {H : Heap} {locs : List Loc} {cells slots : Nat} {Q : State → Prop}
variable {cc : ByteArray} {pc : Nat} {ls : Array Slot} {rest : List Value} {E : Ev} {A : Nat → Prop} {ad : Nat → Nat} {js : List Nat} {x y : St} {nL : Nat} {rt : Option FieldType} {q : Nat}
theorem gf_LE_15 (C0 : Cx E A RLE cc nL rt p s m args meth c) (hP : Wd E ad js x H) (ho : isO js q 1) (hdg : decode cc pc = .ok (.getfield 15, 3)) (kk : W p l e R s m args below meth c H locs cells slots Q (F0 m (pc + 3) ls (.int (gi x q 0) :: rest))) : W p l e R s m args below meth c H locs cells slots Q (F0 m pc ls (.ref (ad q) :: rest)) := rgI C0 hP ho vcl_1 (by decide) rfl ig_LE (by decide) rfl rfl gw_f_LE_15 hdg kk
theorem gf_LE_21 (C0 : Cx E A RLE cc nL rt p s m args meth c) (hP : Wd E ad js x H) (ho : isO js q 1) (hdg : decode cc pc = .ok (.getfield 21, 3)) (kk : W p l e R s m args below meth c H locs cells slots Q (F0 m (pc + 3) ls (.int (gi x q 1) :: rest))) : W p l e R s m args below meth c H locs cells slots Q (F0 m pc ls (.ref (ad q) :: rest)) := rgI C0 hP ho vcl_1 (by decide) rfl ig_LE (by decide) rfl rfl gw_f_LE_21 hdg kk
theorem gf_LE_24 (C0 : Cx E A RLE cc nL rt p s m args meth c) (hP : Wd E ad js x H) (ho : isO js q 1) (hdg : decode cc pc = .ok (.getfield 24, 3)) (kk : W p l e R s m args below meth c H locs cells slots Q (F0 m (pc + 3) ls (.ref (ad (rf q 2)) :: rest))) : W p l e R s m args below meth c H locs cells slots Q (F0 m pc ls (.ref (ad q) :: rest)) := rgR C0 hP ho vcl_1 (by decide) rfl ig_LE (by decide) rfl rfl gw_f_LE_24 hdg kk
theorem gf_LE_28 (C0 : Cx E A RLE cc nL rt p s m args meth c) (hP : Wd E ad js x H) (ho : isO js q 1) (hdg : decode cc pc = .ok (.getfield 28, 3)) (kk : W p l e R s m args below meth c H locs cells slots Q (F0 m (pc + 3) ls (.int (gi x q 3) :: rest))) : W p l e R s m args below meth c H locs cells slots Q (F0 m pc ls (.ref (ad q) :: rest)) := rgI C0 hP ho vcl_1 (by decide) rfl ig_LE (by decide) rfl rfl gw_f_LE_28 hdg kk
theorem pf_LE_28 (C0 : Cx E A RLE cc nL rt p s m args meth c) (hap : Ap ad js A) (hP : Wd E ad js x H) (hS : va_S A s.heap H locs) {v : Int32} (ho : isO js q 1) (hy : si x q 3 v = y) (hdg : decode cc pc = .ok (.putfield 28, 3)) (kk : ∀ H1 locs1, Wd E ad js y H1 → va_S A s.heap H1 locs1 → W p l e R s m args below meth c H1 locs1 cells slots Q (F0 m (pc + 3) ls rest)) : W p l e R s m args below meth c H locs cells slots Q (F0 m pc ls (.int v :: .ref (ad q) :: rest)) := by
  subst hy
  exact rpI C0 hap hP hS ho vcl_1 (by decide) rfl ig_LE ty_LE nm_LE (by decide) rfl rfl rfl rfl gw_f_LE_28 hdg kk
theorem gf_SH_50 (C0 : Cx E A RSH cc nL rt p s m args meth c) (hP : Wd E ad js x H) (ho : isO js q 1) (hdg : decode cc pc = .ok (.getfield 50, 3)) (kk : W p l e R s m args below meth c H locs cells slots Q (F0 m (pc + 3) ls (.int (gi x q 3) :: rest))) : W p l e R s m args below meth c H locs cells slots Q (F0 m pc ls (.ref (ad q) :: rest)) := rgIN C0 hP ho vcl_1 (by decide) rfl ig_LE (by decide) rfl rfl gw_f_SH_50 hdg kk
theorem pf_SH_50 (C0 : Cx E A RSH cc nL rt p s m args meth c) (hap : Ap ad js A) (hP : Wd E ad js x H) (hS : va_S A s.heap H locs) {v : Int32} (ho : isO js q 1) (hy : si x q 3 v = y) (hdg : decode cc pc = .ok (.putfield 50, 3)) (kk : ∀ H1 locs1, Wd E ad js y H1 → va_S A s.heap H1 locs1 → W p l e R s m args below meth c H1 locs1 cells slots Q (F0 m (pc + 3) ls rest)) : W p l e R s m args below meth c H locs cells slots Q (F0 m pc ls (.int v :: .ref (ad q) :: rest)) := by
  subst hy
  exact rpIN C0 hap hP hS ho vcl_1 (by decide) rfl ig_LE ty_LE nm_LE (by decide) rfl rfl rfl rfl gw_f_SH_50 hdg kk
theorem gf_HI_28 (C0 : Cx E A RHI cc nL rt p s m args meth c) (hP : Wd E ad js x H) (ho : isO js q 1) (hdg : decode cc pc = .ok (.getfield 28, 3)) (kk : W p l e R s m args below meth c H locs cells slots Q (F0 m (pc + 3) ls (.int (gi x q 3) :: rest))) : W p l e R s m args below meth c H locs cells slots Q (F0 m pc ls (.ref (ad q) :: rest)) := rgIN C0 hP ho vcl_1 (by decide) rfl ig_LE (by decide) rfl rfl gw_f_HI_28 hdg kk
theorem pf_HI_28 (C0 : Cx E A RHI cc nL rt p s m args meth c) (hap : Ap ad js A) (hP : Wd E ad js x H) (hS : va_S A s.heap H locs) {v : Int32} (ho : isO js q 1) (hy : si x q 3 v = y) (hdg : decode cc pc = .ok (.putfield 28, 3)) (kk : ∀ H1 locs1, Wd E ad js y H1 → va_S A s.heap H1 locs1 → W p l e R s m args below meth c H1 locs1 cells slots Q (F0 m (pc + 3) ls rest)) : W p l e R s m args below meth c H locs cells slots Q (F0 m pc ls (.int v :: .ref (ad q) :: rest)) := by
  subst hy
  exact rpIN C0 hap hP hS ho vcl_1 (by decide) rfl ig_LE ty_LE nm_LE (by decide) rfl rfl rfl rfl gw_f_HI_28 hdg kk
theorem gf_GG_96 (C0 : Cx E A RGG cc nL rt p s m args meth c) (hP : Wd E ad js x H) (ho : isO js q 1) (hdg : decode cc pc = .ok (.getfield 96, 3)) (kk : W p l e R s m args below meth c H locs cells slots Q (F0 m (pc + 3) ls (.int (gi x q 3) :: rest))) : W p l e R s m args below meth c H locs cells slots Q (F0 m pc ls (.ref (ad q) :: rest)) := rgIN C0 hP ho vcl_1 (by decide) rfl ig_LE (by decide) rfl rfl gw_f_GG_96 hdg kk
theorem pf_GG_96 (C0 : Cx E A RGG cc nL rt p s m args meth c) (hap : Ap ad js A) (hP : Wd E ad js x H) (hS : va_S A s.heap H locs) {v : Int32} (ho : isO js q 1) (hy : si x q 3 v = y) (hdg : decode cc pc = .ok (.putfield 96, 3)) (kk : ∀ H1 locs1, Wd E ad js y H1 → va_S A s.heap H1 locs1 → W p l e R s m args below meth c H1 locs1 cells slots Q (F0 m (pc + 3) ls rest)) : W p l e R s m args below meth c H locs cells slots Q (F0 m pc ls (.int v :: .ref (ad q) :: rest)) := by
  subst hy
  exact rpIN C0 hap hP hS ho vcl_1 (by decide) rfl ig_LE ty_LE nm_LE (by decide) rfl rfl rfl rfl gw_f_GG_96 hdg kk
theorem gf_RE_115 (C0 : Cx E A RRE cc nL rt p s m args meth c) (hP : Wd E ad js x H) (ho : isO js q 1) (hdg : decode cc pc = .ok (.getfield 115, 3)) (kk : W p l e R s m args below meth c H locs cells slots Q (F0 m (pc + 3) ls (.int (gi x q 3) :: rest))) : W p l e R s m args below meth c H locs cells slots Q (F0 m pc ls (.ref (ad q) :: rest)) := rgIN C0 hP ho vcl_1 (by decide) rfl ig_LE (by decide) rfl rfl gw_f_RE_115 hdg kk
theorem pf_RE_115 (C0 : Cx E A RRE cc nL rt p s m args meth c) (hap : Ap ad js A) (hP : Wd E ad js x H) (hS : va_S A s.heap H locs) {v : Int32} (ho : isO js q 1) (hy : si x q 3 v = y) (hdg : decode cc pc = .ok (.putfield 115, 3)) (kk : ∀ H1 locs1, Wd E ad js y H1 → va_S A s.heap H1 locs1 → W p l e R s m args below meth c H1 locs1 cells slots Q (F0 m (pc + 3) ls rest)) : W p l e R s m args below meth c H locs cells slots Q (F0 m pc ls (.int v :: .ref (ad q) :: rest)) := by
  subst hy
  exact rpIN C0 hap hP hS ho vcl_1 (by decide) rfl ig_LE ty_LE nm_LE (by decide) rfl rfl rfl rfl gw_f_RE_115 hdg kk
theorem gf_OU_90 (C0 : Cx E A ROU cc nL rt p s m args meth c) (hP : Wd E ad js x H) (ho : isO js q 1) (hdg : decode cc pc = .ok (.getfield 90, 3)) (kk : W p l e R s m args below meth c H locs cells slots Q (F0 m (pc + 3) ls (.int (gi x q 3) :: rest))) : W p l e R s m args below meth c H locs cells slots Q (F0 m pc ls (.ref (ad q) :: rest)) := rgIN C0 hP ho vcl_1 (by decide) rfl ig_LE (by decide) rfl rfl gw_f_OU_90 hdg kk
theorem pf_OU_90 (C0 : Cx E A ROU cc nL rt p s m args meth c) (hap : Ap ad js A) (hP : Wd E ad js x H) (hS : va_S A s.heap H locs) {v : Int32} (ho : isO js q 1) (hy : si x q 3 v = y) (hdg : decode cc pc = .ok (.putfield 90, 3)) (kk : ∀ H1 locs1, Wd E ad js y H1 → va_S A s.heap H1 locs1 → W p l e R s m args below meth c H1 locs1 cells slots Q (F0 m (pc + 3) ls rest)) : W p l e R s m args below meth c H locs cells slots Q (F0 m pc ls (.int v :: .ref (ad q) :: rest)) := by
  subst hy
  exact rpIN C0 hap hP hS ho vcl_1 (by decide) rfl ig_LE ty_LE nm_LE (by decide) rfl rfl rfl rfl gw_f_OU_90 hdg kk
theorem gf_SH_14 (C0 : Cx E A RSH cc nL rt p s m args meth c) (hP : Wd E ad js x H) (ho : isO js q 4) (hdg : decode cc pc = .ok (.getfield 14, 3)) (kk : W p l e R s m args below meth c H locs cells slots Q (F0 m (pc + 3) ls (.ref (ad (rf q 0)) :: rest))) : W p l e R s m args below meth c H locs cells slots Q (F0 m pc ls (.ref (ad q) :: rest)) := rgR C0 hP ho vcl_4 (by decide) rfl ig_SH (by decide) rfl rfl gw_f_SH_14 hdg kk
theorem gf_HI_22 (C0 : Cx E A RHI cc nL rt p s m args meth c) (hP : Wd E ad js x H) (ho : isO js q 4) (hdg : decode cc pc = .ok (.getfield 22, 3)) (kk : W p l e R s m args below meth c H locs cells slots Q (F0 m (pc + 3) ls (.ref (ad (rf q 0)) :: rest))) : W p l e R s m args below meth c H locs cells slots Q (F0 m pc ls (.ref (ad q) :: rest)) := rgRN C0 hP ho vcl_4 (by decide) rfl ig_SH (by decide) rfl rfl gw_f_HI_22 hdg kk
theorem gf_GG_57 (C0 : Cx E A RGG cc nL rt p s m args meth c) (hP : Wd E ad js x H) (ho : isO js q 4) (hdg : decode cc pc = .ok (.getfield 57, 3)) (kk : W p l e R s m args below meth c H locs cells slots Q (F0 m (pc + 3) ls (.ref (ad (rf q 0)) :: rest))) : W p l e R s m args below meth c H locs cells slots Q (F0 m pc ls (.ref (ad q) :: rest)) := rgRN C0 hP ho vcl_4 (by decide) rfl ig_SH (by decide) rfl rfl gw_f_GG_57 hdg kk
theorem gf_RE_81 (C0 : Cx E A RRE cc nL rt p s m args meth c) (hP : Wd E ad js x H) (ho : isO js q 4) (hdg : decode cc pc = .ok (.getfield 81, 3)) (kk : W p l e R s m args below meth c H locs cells slots Q (F0 m (pc + 3) ls (.ref (ad (rf q 0)) :: rest))) : W p l e R s m args below meth c H locs cells slots Q (F0 m pc ls (.ref (ad q) :: rest)) := rgRN C0 hP ho vcl_4 (by decide) rfl ig_SH (by decide) rfl rfl gw_f_RE_81 hdg kk
theorem gf_SH_20 (C0 : Cx E A RSH cc nL rt p s m args meth c) (hP : Wd E ad js x H) (ho : isO js q 4) (hdg : decode cc pc = .ok (.getfield 20, 3)) (kk : W p l e R s m args below meth c H locs cells slots Q (F0 m (pc + 3) ls (.ref (ad (rf q 1)) :: rest))) : W p l e R s m args below meth c H locs cells slots Q (F0 m pc ls (.ref (ad q) :: rest)) := rgR C0 hP ho vcl_4 (by decide) rfl ig_SH (by decide) rfl rfl gw_f_SH_20 hdg kk
theorem gf_GG_74 (C0 : Cx E A RGG cc nL rt p s m args meth c) (hP : Wd E ad js x H) (ho : isO js q 4) (hdg : decode cc pc = .ok (.getfield 74, 3)) (kk : W p l e R s m args below meth c H locs cells slots Q (F0 m (pc + 3) ls (.ref (ad (rf q 1)) :: rest))) : W p l e R s m args below meth c H locs cells slots Q (F0 m pc ls (.ref (ad q) :: rest)) := rgRN C0 hP ho vcl_4 (by decide) rfl ig_SH (by decide) rfl rfl gw_f_GG_74 hdg kk
theorem gf_HI_76 (C0 : Cx E A RHI cc nL rt p s m args meth c) (hP : Wd E ad js x H) (ho : isO js q 4) (hdg : decode cc pc = .ok (.getfield 76, 3)) (kk : W p l e R s m args below meth c H locs cells slots Q (F0 m (pc + 3) ls (.ref (ad (rf q 1)) :: rest))) : W p l e R s m args below meth c H locs cells slots Q (F0 m pc ls (.ref (ad q) :: rest)) := rgRN C0 hP ho vcl_4 (by decide) rfl ig_SH (by decide) rfl rfl gw_f_HI_76 hdg kk
theorem gf_RE_102 (C0 : Cx E A RRE cc nL rt p s m args meth c) (hP : Wd E ad js x H) (ho : isO js q 4) (hdg : decode cc pc = .ok (.getfield 102, 3)) (kk : W p l e R s m args below meth c H locs cells slots Q (F0 m (pc + 3) ls (.ref (ad (rf q 1)) :: rest))) : W p l e R s m args below meth c H locs cells slots Q (F0 m pc ls (.ref (ad q) :: rest)) := rgRN C0 hP ho vcl_4 (by decide) rfl ig_SH (by decide) rfl rfl gw_f_RE_102 hdg kk
theorem gf_OU_109 (C0 : Cx E A ROU cc nL rt p s m args meth c) (hP : Wd E ad js x H) (ho : isO js q 4) (hdg : decode cc pc = .ok (.getfield 109, 3)) (kk : W p l e R s m args below meth c H locs cells slots Q (F0 m (pc + 3) ls (.ref (ad (rf q 1)) :: rest))) : W p l e R s m args below meth c H locs cells slots Q (F0 m pc ls (.ref (ad q) :: rest)) := rgRN C0 hP ho vcl_4 (by decide) rfl ig_SH (by decide) rfl rfl gw_f_OU_109 hdg kk
theorem gf_SH_23 (C0 : Cx E A RSH cc nL rt p s m args meth c) (hP : Wd E ad js x H) (ho : isO js q 4) (hdg : decode cc pc = .ok (.getfield 23, 3)) (kk : W p l e R s m args below meth c H locs cells slots Q (F0 m (pc + 3) ls (.ref (ad (rf q 2)) :: rest))) : W p l e R s m args below meth c H locs cells slots Q (F0 m pc ls (.ref (ad q) :: rest)) := rgR C0 hP ho vcl_4 (by decide) rfl ig_SH (by decide) rfl rfl gw_f_SH_23 hdg kk
theorem gf_HI_59 (C0 : Cx E A RHI cc nL rt p s m args meth c) (hP : Wd E ad js x H) (ho : isO js q 4) (hdg : decode cc pc = .ok (.getfield 59, 3)) (kk : W p l e R s m args below meth c H locs cells slots Q (F0 m (pc + 3) ls (.ref (ad (rf q 2)) :: rest))) : W p l e R s m args below meth c H locs cells slots Q (F0 m pc ls (.ref (ad q) :: rest)) := rgRN C0 hP ho vcl_4 (by decide) rfl ig_SH (by decide) rfl rfl gw_f_HI_59 hdg kk
theorem gf_GG_83 (C0 : Cx E A RGG cc nL rt p s m args meth c) (hP : Wd E ad js x H) (ho : isO js q 4) (hdg : decode cc pc = .ok (.getfield 83, 3)) (kk : W p l e R s m args below meth c H locs cells slots Q (F0 m (pc + 3) ls (.ref (ad (rf q 2)) :: rest))) : W p l e R s m args below meth c H locs cells slots Q (F0 m pc ls (.ref (ad q) :: rest)) := rgRN C0 hP ho vcl_4 (by decide) rfl ig_SH (by decide) rfl rfl gw_f_GG_83 hdg kk
theorem gf_RE_105 (C0 : Cx E A RRE cc nL rt p s m args meth c) (hP : Wd E ad js x H) (ho : isO js q 4) (hdg : decode cc pc = .ok (.getfield 105, 3)) (kk : W p l e R s m args below meth c H locs cells slots Q (F0 m (pc + 3) ls (.ref (ad (rf q 2)) :: rest))) : W p l e R s m args below meth c H locs cells slots Q (F0 m pc ls (.ref (ad q) :: rest)) := rgRN C0 hP ho vcl_4 (by decide) rfl ig_SH (by decide) rfl rfl gw_f_RE_105 hdg kk
theorem gf_SH_26 (C0 : Cx E A RSH cc nL rt p s m args meth c) (hP : Wd E ad js x H) (ho : isO js q 4) (hdg : decode cc pc = .ok (.getfield 26, 3)) (kk : W p l e R s m args below meth c H locs cells slots Q (F0 m (pc + 3) ls (.ref (ad (rf q 3)) :: rest))) : W p l e R s m args below meth c H locs cells slots Q (F0 m pc ls (.ref (ad q) :: rest)) := rgR C0 hP ho vcl_4 (by decide) rfl ig_SH (by decide) rfl rfl gw_f_SH_26 hdg kk
theorem gf_GG_90 (C0 : Cx E A RGG cc nL rt p s m args meth c) (hP : Wd E ad js x H) (ho : isO js q 4) (hdg : decode cc pc = .ok (.getfield 90, 3)) (kk : W p l e R s m args below meth c H locs cells slots Q (F0 m (pc + 3) ls (.ref (ad (rf q 3)) :: rest))) : W p l e R s m args below meth c H locs cells slots Q (F0 m pc ls (.ref (ad q) :: rest)) := rgRN C0 hP ho vcl_4 (by decide) rfl ig_SH (by decide) rfl rfl gw_f_GG_90 hdg kk
theorem gf_RE_112 (C0 : Cx E A RRE cc nL rt p s m args meth c) (hP : Wd E ad js x H) (ho : isO js q 4) (hdg : decode cc pc = .ok (.getfield 112, 3)) (kk : W p l e R s m args below meth c H locs cells slots Q (F0 m (pc + 3) ls (.ref (ad (rf q 3)) :: rest))) : W p l e R s m args below meth c H locs cells slots Q (F0 m pc ls (.ref (ad q) :: rest)) := rgRN C0 hP ho vcl_4 (by decide) rfl ig_SH (by decide) rfl rfl gw_f_RE_112 hdg kk
theorem gf_OU_102 (C0 : Cx E A ROU cc nL rt p s m args meth c) (hP : Wd E ad js x H) (ho : isO js q 4) (hdg : decode cc pc = .ok (.getfield 102, 3)) (kk : W p l e R s m args below meth c H locs cells slots Q (F0 m (pc + 3) ls (.ref (ad (rf q 3)) :: rest))) : W p l e R s m args below meth c H locs cells slots Q (F0 m pc ls (.ref (ad q) :: rest)) := rgRN C0 hP ho vcl_4 (by decide) rfl ig_SH (by decide) rfl rfl gw_f_OU_102 hdg kk
theorem gf_SH_29 (C0 : Cx E A RSH cc nL rt p s m args meth c) (hP : Wd E ad js x H) (ho : isO js q 4) (hdg : decode cc pc = .ok (.getfield 29, 3)) (kk : W p l e R s m args below meth c H locs cells slots Q (F0 m (pc + 3) ls (.ref (ad (rf q 4)) :: rest))) : W p l e R s m args below meth c H locs cells slots Q (F0 m pc ls (.ref (ad q) :: rest)) := rgR C0 hP ho vcl_4 (by decide) rfl ig_SH (by decide) rfl rfl gw_f_SH_29 hdg kk
theorem gf_GG_181 (C0 : Cx E A RGG cc nL rt p s m args meth c) (hP : Wd E ad js x H) (ho : isO js q 4) (hdg : decode cc pc = .ok (.getfield 181, 3)) (kk : W p l e R s m args below meth c H locs cells slots Q (F0 m (pc + 3) ls (.ref (ad (rf q 4)) :: rest))) : W p l e R s m args below meth c H locs cells slots Q (F0 m pc ls (.ref (ad q) :: rest)) := rgRN C0 hP ho vcl_4 (by decide) rfl ig_SH (by decide) rfl rfl gw_f_GG_181 hdg kk
theorem gf_SH_34 (C0 : Cx E A RSH cc nL rt p s m args meth c) (hP : Wd E ad js x H) (ho : isO js q 4) (hdg : decode cc pc = .ok (.getfield 34, 3)) (kk : W p l e R s m args below meth c H locs cells slots Q (F0 m (pc + 3) ls (.ref (ad (rf q 5)) :: rest))) : W p l e R s m args below meth c H locs cells slots Q (F0 m pc ls (.ref (ad q) :: rest)) := rgR C0 hP ho vcl_4 (by decide) rfl ig_SH (by decide) rfl rfl gw_f_SH_34 hdg kk
theorem gf_SH_37 (C0 : Cx E A RSH cc nL rt p s m args meth c) (hP : Wd E ad js x H) (ho : isO js q 4) (hdg : decode cc pc = .ok (.getfield 37, 3)) (kk : W p l e R s m args below meth c H locs cells slots Q (F0 m (pc + 3) ls (.ref (ad (rf q 6)) :: rest))) : W p l e R s m args below meth c H locs cells slots Q (F0 m pc ls (.ref (ad q) :: rest)) := rgR C0 hP ho vcl_4 (by decide) rfl ig_SH (by decide) rfl rfl gw_f_SH_37 hdg kk
theorem gf_SH_41 (C0 : Cx E A RSH cc nL rt p s m args meth c) (hP : Wd E ad js x H) (ho : isO js q 4) (hdg : decode cc pc = .ok (.getfield 41, 3)) (kk : W p l e R s m args below meth c H locs cells slots Q (F0 m (pc + 3) ls (.ref (ad (rf q 7)) :: rest))) : W p l e R s m args below meth c H locs cells slots Q (F0 m pc ls (.ref (ad q) :: rest)) := rgR C0 hP ho vcl_4 (by decide) rfl ig_SH (by decide) rfl rfl gw_f_SH_41 hdg kk
theorem gf_SH_54 (C0 : Cx E A RSH cc nL rt p s m args meth c) (hP : Wd E ad js x H) (ho : isO js q 4) (hdg : decode cc pc = .ok (.getfield 54, 3)) (kk : W p l e R s m args below meth c H locs cells slots Q (F0 m (pc + 3) ls (.int (gi x q 8) :: rest))) : W p l e R s m args below meth c H locs cells slots Q (F0 m pc ls (.ref (ad q) :: rest)) := rgI C0 hP ho vcl_4 (by decide) rfl ig_SH (by decide) rfl rfl gw_f_SH_54 hdg kk
theorem pf_SH_54 (C0 : Cx E A RSH cc nL rt p s m args meth c) (hap : Ap ad js A) (hP : Wd E ad js x H) (hS : va_S A s.heap H locs) {v : Int32} (ho : isO js q 4) (hy : si x q 8 v = y) (hdg : decode cc pc = .ok (.putfield 54, 3)) (kk : ∀ H1 locs1, Wd E ad js y H1 → va_S A s.heap H1 locs1 → W p l e R s m args below meth c H1 locs1 cells slots Q (F0 m (pc + 3) ls rest)) : W p l e R s m args below meth c H locs cells slots Q (F0 m pc ls (.int v :: .ref (ad q) :: rest)) := by
  subst hy
  exact rpI C0 hap hP hS ho vcl_4 (by decide) rfl ig_SH ty_SH nm_SH (by decide) rfl rfl rfl rfl gw_f_SH_54 hdg kk
theorem gf_GG_128 (C0 : Cx E A RGG cc nL rt p s m args meth c) (hP : Wd E ad js x H) (ho : isO js q 4) (hdg : decode cc pc = .ok (.getfield 128, 3)) (kk : W p l e R s m args below meth c H locs cells slots Q (F0 m (pc + 3) ls (.int (gi x q 8) :: rest))) : W p l e R s m args below meth c H locs cells slots Q (F0 m pc ls (.ref (ad q) :: rest)) := rgIN C0 hP ho vcl_4 (by decide) rfl ig_SH (by decide) rfl rfl gw_f_GG_128 hdg kk
theorem pf_GG_128 (C0 : Cx E A RGG cc nL rt p s m args meth c) (hap : Ap ad js A) (hP : Wd E ad js x H) (hS : va_S A s.heap H locs) {v : Int32} (ho : isO js q 4) (hy : si x q 8 v = y) (hdg : decode cc pc = .ok (.putfield 128, 3)) (kk : ∀ H1 locs1, Wd E ad js y H1 → va_S A s.heap H1 locs1 → W p l e R s m args below meth c H1 locs1 cells slots Q (F0 m (pc + 3) ls rest)) : W p l e R s m args below meth c H locs cells slots Q (F0 m pc ls (.int v :: .ref (ad q) :: rest)) := by
  subst hy
  exact rpIN C0 hap hP hS ho vcl_4 (by decide) rfl ig_SH ty_SH nm_SH (by decide) rfl rfl rfl rfl gw_f_GG_128 hdg kk
theorem gf_OU_31 (C0 : Cx E A ROU cc nL rt p s m args meth c) (hP : Wd E ad js x H) (ho : isO js q 4) (hdg : decode cc pc = .ok (.getfield 31, 3)) (kk : W p l e R s m args below meth c H locs cells slots Q (F0 m (pc + 3) ls (.int (gi x q 9) :: rest))) : W p l e R s m args below meth c H locs cells slots Q (F0 m pc ls (.ref (ad q) :: rest)) := rgIN C0 hP ho vcl_4 (by decide) rfl ig_SH (by decide) rfl rfl gw_f_OU_31 hdg kk
theorem pf_OU_31 (C0 : Cx E A ROU cc nL rt p s m args meth c) (hap : Ap ad js A) (hP : Wd E ad js x H) (hS : va_S A s.heap H locs) {v : Int32} (ho : isO js q 4) (hy : si x q 9 v = y) (hdg : decode cc pc = .ok (.putfield 31, 3)) (kk : ∀ H1 locs1, Wd E ad js y H1 → va_S A s.heap H1 locs1 → W p l e R s m args below meth c H1 locs1 cells slots Q (F0 m (pc + 3) ls rest)) : W p l e R s m args below meth c H locs cells slots Q (F0 m pc ls (.int v :: .ref (ad q) :: rest)) := by
  subst hy
  exact rpIN C0 hap hP hS ho vcl_4 (by decide) rfl ig_SH ty_SH nm_SH (by decide) rfl rfl rfl rfl gw_f_OU_31 hdg kk
theorem gf_SH_57 (C0 : Cx E A RSH cc nL rt p s m args meth c) (hP : Wd E ad js x H) (ho : isO js q 4) (hdg : decode cc pc = .ok (.getfield 57, 3)) (kk : W p l e R s m args below meth c H locs cells slots Q (F0 m (pc + 3) ls (.int (gi x q 9) :: rest))) : W p l e R s m args below meth c H locs cells slots Q (F0 m pc ls (.ref (ad q) :: rest)) := rgI C0 hP ho vcl_4 (by decide) rfl ig_SH (by decide) rfl rfl gw_f_SH_57 hdg kk
theorem pf_SH_57 (C0 : Cx E A RSH cc nL rt p s m args meth c) (hap : Ap ad js A) (hP : Wd E ad js x H) (hS : va_S A s.heap H locs) {v : Int32} (ho : isO js q 4) (hy : si x q 9 v = y) (hdg : decode cc pc = .ok (.putfield 57, 3)) (kk : ∀ H1 locs1, Wd E ad js y H1 → va_S A s.heap H1 locs1 → W p l e R s m args below meth c H1 locs1 cells slots Q (F0 m (pc + 3) ls rest)) : W p l e R s m args below meth c H locs cells slots Q (F0 m pc ls (.int v :: .ref (ad q) :: rest)) := by
  subst hy
  exact rpI C0 hap hP hS ho vcl_4 (by decide) rfl ig_SH ty_SH nm_SH (by decide) rfl rfl rfl rfl gw_f_SH_57 hdg kk
theorem gf_HI_66 (C0 : Cx E A RHI cc nL rt p s m args meth c) (hP : Wd E ad js x H) (ho : isO js q 4) (hdg : decode cc pc = .ok (.getfield 66, 3)) (kk : W p l e R s m args below meth c H locs cells slots Q (F0 m (pc + 3) ls (.int (gi x q 9) :: rest))) : W p l e R s m args below meth c H locs cells slots Q (F0 m pc ls (.ref (ad q) :: rest)) := rgIN C0 hP ho vcl_4 (by decide) rfl ig_SH (by decide) rfl rfl gw_f_HI_66 hdg kk
theorem pf_HI_66 (C0 : Cx E A RHI cc nL rt p s m args meth c) (hap : Ap ad js A) (hP : Wd E ad js x H) (hS : va_S A s.heap H locs) {v : Int32} (ho : isO js q 4) (hy : si x q 9 v = y) (hdg : decode cc pc = .ok (.putfield 66, 3)) (kk : ∀ H1 locs1, Wd E ad js y H1 → va_S A s.heap H1 locs1 → W p l e R s m args below meth c H1 locs1 cells slots Q (F0 m (pc + 3) ls rest)) : W p l e R s m args below meth c H locs cells slots Q (F0 m pc ls (.int v :: .ref (ad q) :: rest)) := by
  subst hy
  exact rpIN C0 hap hP hS ho vcl_4 (by decide) rfl ig_SH ty_SH nm_SH (by decide) rfl rfl rfl rfl gw_f_HI_66 hdg kk
theorem gf_GG_117 (C0 : Cx E A RGG cc nL rt p s m args meth c) (hP : Wd E ad js x H) (ho : isO js q 4) (hdg : decode cc pc = .ok (.getfield 117, 3)) (kk : W p l e R s m args below meth c H locs cells slots Q (F0 m (pc + 3) ls (.int (gi x q 9) :: rest))) : W p l e R s m args below meth c H locs cells slots Q (F0 m pc ls (.ref (ad q) :: rest)) := rgIN C0 hP ho vcl_4 (by decide) rfl ig_SH (by decide) rfl rfl gw_f_GG_117 hdg kk
theorem pf_GG_117 (C0 : Cx E A RGG cc nL rt p s m args meth c) (hap : Ap ad js A) (hP : Wd E ad js x H) (hS : va_S A s.heap H locs) {v : Int32} (ho : isO js q 4) (hy : si x q 9 v = y) (hdg : decode cc pc = .ok (.putfield 117, 3)) (kk : ∀ H1 locs1, Wd E ad js y H1 → va_S A s.heap H1 locs1 → W p l e R s m args below meth c H1 locs1 cells slots Q (F0 m (pc + 3) ls rest)) : W p l e R s m args below meth c H locs cells slots Q (F0 m pc ls (.int v :: .ref (ad q) :: rest)) := by
  subst hy
  exact rpIN C0 hap hP hS ho vcl_4 (by decide) rfl ig_SH ty_SH nm_SH (by decide) rfl rfl rfl rfl gw_f_GG_117 hdg kk
theorem gf_RE_118 (C0 : Cx E A RRE cc nL rt p s m args meth c) (hP : Wd E ad js x H) (ho : isO js q 4) (hdg : decode cc pc = .ok (.getfield 118, 3)) (kk : W p l e R s m args below meth c H locs cells slots Q (F0 m (pc + 3) ls (.int (gi x q 9) :: rest))) : W p l e R s m args below meth c H locs cells slots Q (F0 m pc ls (.ref (ad q) :: rest)) := rgIN C0 hP ho vcl_4 (by decide) rfl ig_SH (by decide) rfl rfl gw_f_RE_118 hdg kk
theorem pf_RE_118 (C0 : Cx E A RRE cc nL rt p s m args meth c) (hap : Ap ad js A) (hP : Wd E ad js x H) (hS : va_S A s.heap H locs) {v : Int32} (ho : isO js q 4) (hy : si x q 9 v = y) (hdg : decode cc pc = .ok (.putfield 118, 3)) (kk : ∀ H1 locs1, Wd E ad js y H1 → va_S A s.heap H1 locs1 → W p l e R s m args below meth c H1 locs1 cells slots Q (F0 m (pc + 3) ls rest)) : W p l e R s m args below meth c H locs cells slots Q (F0 m pc ls (.int v :: .ref (ad q) :: rest)) := by
  subst hy
  exact rpIN C0 hap hP hS ho vcl_4 (by decide) rfl ig_SH ty_SH nm_SH (by decide) rfl rfl rfl rfl gw_f_RE_118 hdg kk
theorem gf_RE_9 (C0 : Cx E A RRE cc nL rt p s m args meth c) (hP : Wd E ad js x H) (ho : isO js q 3) (hdg : decode cc pc = .ok (.getfield 9, 3)) (kk : W p l e R s m args below meth c H locs cells slots Q (F0 m (pc + 3) ls (.ref (ad (rf q 0)) :: rest))) : W p l e R s m args below meth c H locs cells slots Q (F0 m pc ls (.ref (ad q) :: rest)) := rgR C0 hP ho vcl_3 (by decide) rfl ig_RE (by decide) rfl rfl gw_f_RE_9 hdg kk
theorem gf_RE_26 (C0 : Cx E A RRE cc nL rt p s m args meth c) (hP : Wd E ad js x H) (ho : isO js q 3) (hdg : decode cc pc = .ok (.getfield 26, 3)) (kk : W p l e R s m args below meth c H locs cells slots Q (F0 m (pc + 3) ls (.int (gi x q 1) :: rest))) : W p l e R s m args below meth c H locs cells slots Q (F0 m pc ls (.ref (ad q) :: rest)) := rgI C0 hP ho vcl_3 (by decide) rfl ig_RE (by decide) rfl rfl gw_f_RE_26 hdg kk
theorem pf_RE_26 (C0 : Cx E A RRE cc nL rt p s m args meth c) (hap : Ap ad js A) (hP : Wd E ad js x H) (hS : va_S A s.heap H locs) {v : Int32} (ho : isO js q 3) (hy : si x q 1 v = y) (hdg : decode cc pc = .ok (.putfield 26, 3)) (kk : ∀ H1 locs1, Wd E ad js y H1 → va_S A s.heap H1 locs1 → W p l e R s m args below meth c H1 locs1 cells slots Q (F0 m (pc + 3) ls rest)) : W p l e R s m args below meth c H locs cells slots Q (F0 m pc ls (.int v :: .ref (ad q) :: rest)) := by
  subst hy
  exact rpI C0 hap hP hS ho vcl_3 (by decide) rfl ig_RE ty_RE nm_RE (by decide) rfl rfl rfl rfl gw_f_RE_26 hdg kk
theorem gf_GG_134 (C0 : Cx E A RGG cc nL rt p s m args meth c) (hP : Wd E ad js x H) (ho : isO js q 3) (hdg : decode cc pc = .ok (.getfield 134, 3)) (kk : W p l e R s m args below meth c H locs cells slots Q (F0 m (pc + 3) ls (.int (gi x q 1) :: rest))) : W p l e R s m args below meth c H locs cells slots Q (F0 m pc ls (.ref (ad q) :: rest)) := rgIN C0 hP ho vcl_3 (by decide) rfl ig_RE (by decide) rfl rfl gw_f_GG_134 hdg kk
theorem pf_GG_134 (C0 : Cx E A RGG cc nL rt p s m args meth c) (hap : Ap ad js A) (hP : Wd E ad js x H) (hS : va_S A s.heap H locs) {v : Int32} (ho : isO js q 3) (hy : si x q 1 v = y) (hdg : decode cc pc = .ok (.putfield 134, 3)) (kk : ∀ H1 locs1, Wd E ad js y H1 → va_S A s.heap H1 locs1 → W p l e R s m args below meth c H1 locs1 cells slots Q (F0 m (pc + 3) ls rest)) : W p l e R s m args below meth c H locs cells slots Q (F0 m pc ls (.int v :: .ref (ad q) :: rest)) := by
  subst hy
  exact rpIN C0 hap hP hS ho vcl_3 (by decide) rfl ig_RE ty_RE nm_RE (by decide) rfl rfl rfl rfl gw_f_GG_134 hdg kk
theorem gf_RE_32 (C0 : Cx E A RRE cc nL rt p s m args meth c) (hP : Wd E ad js x H) (ho : isO js q 3) (hdg : decode cc pc = .ok (.getfield 32, 3)) (kk : W p l e R s m args below meth c H locs cells slots Q (F0 m (pc + 3) ls (.int (gi x q 2) :: rest))) : W p l e R s m args below meth c H locs cells slots Q (F0 m pc ls (.ref (ad q) :: rest)) := rgI C0 hP ho vcl_3 (by decide) rfl ig_RE (by decide) rfl rfl gw_f_RE_32 hdg kk
theorem pf_RE_32 (C0 : Cx E A RRE cc nL rt p s m args meth c) (hap : Ap ad js A) (hP : Wd E ad js x H) (hS : va_S A s.heap H locs) {v : Int32} (ho : isO js q 3) (hy : si x q 2 v = y) (hdg : decode cc pc = .ok (.putfield 32, 3)) (kk : ∀ H1 locs1, Wd E ad js y H1 → va_S A s.heap H1 locs1 → W p l e R s m args below meth c H1 locs1 cells slots Q (F0 m (pc + 3) ls rest)) : W p l e R s m args below meth c H locs cells slots Q (F0 m pc ls (.int v :: .ref (ad q) :: rest)) := by
  subst hy
  exact rpI C0 hap hP hS ho vcl_3 (by decide) rfl ig_RE ty_RE nm_RE (by decide) rfl rfl rfl rfl gw_f_RE_32 hdg kk
theorem gf_RE_15 (C0 : Cx E A RRE cc nL rt p s m args meth c) (hP : Wd E ad js x H) (ho : isO js q 3) (hdg : decode cc pc = .ok (.getfield 15, 3)) (kk : W p l e R s m args below meth c H locs cells slots Q (F0 m (pc + 3) ls (.int (gi x q 3) :: rest))) : W p l e R s m args below meth c H locs cells slots Q (F0 m pc ls (.ref (ad q) :: rest)) := rgI C0 hP ho vcl_3 (by decide) rfl ig_RE (by decide) rfl rfl gw_f_RE_15 hdg kk
theorem pf_RE_15 (C0 : Cx E A RRE cc nL rt p s m args meth c) (hap : Ap ad js A) (hP : Wd E ad js x H) (hS : va_S A s.heap H locs) {v : Int32} (ho : isO js q 3) (hy : si x q 3 v = y) (hdg : decode cc pc = .ok (.putfield 15, 3)) (kk : ∀ H1 locs1, Wd E ad js y H1 → va_S A s.heap H1 locs1 → W p l e R s m args below meth c H1 locs1 cells slots Q (F0 m (pc + 3) ls rest)) : W p l e R s m args below meth c H locs cells slots Q (F0 m pc ls (.int v :: .ref (ad q) :: rest)) := by
  subst hy
  exact rpI C0 hap hP hS ho vcl_3 (by decide) rfl ig_RE ty_RE nm_RE (by decide) rfl rfl rfl rfl gw_f_RE_15 hdg kk
theorem gf_GG_144 (C0 : Cx E A RGG cc nL rt p s m args meth c) (hP : Wd E ad js x H) (ho : isO js q 3) (hdg : decode cc pc = .ok (.getfield 144, 3)) (kk : W p l e R s m args below meth c H locs cells slots Q (F0 m (pc + 3) ls (.int (gi x q 3) :: rest))) : W p l e R s m args below meth c H locs cells slots Q (F0 m pc ls (.ref (ad q) :: rest)) := rgIN C0 hP ho vcl_3 (by decide) rfl ig_RE (by decide) rfl rfl gw_f_GG_144 hdg kk
theorem pf_GG_144 (C0 : Cx E A RGG cc nL rt p s m args meth c) (hap : Ap ad js A) (hP : Wd E ad js x H) (hS : va_S A s.heap H locs) {v : Int32} (ho : isO js q 3) (hy : si x q 3 v = y) (hdg : decode cc pc = .ok (.putfield 144, 3)) (kk : ∀ H1 locs1, Wd E ad js y H1 → va_S A s.heap H1 locs1 → W p l e R s m args below meth c H1 locs1 cells slots Q (F0 m (pc + 3) ls rest)) : W p l e R s m args below meth c H locs cells slots Q (F0 m pc ls (.int v :: .ref (ad q) :: rest)) := by
  subst hy
  exact rpIN C0 hap hP hS ho vcl_3 (by decide) rfl ig_RE ty_RE nm_RE (by decide) rfl rfl rfl rfl gw_f_GG_144 hdg kk
theorem gf_RE_22 (C0 : Cx E A RRE cc nL rt p s m args meth c) (hP : Wd E ad js x H) (ho : isO js q 3) (hdg : decode cc pc = .ok (.getfield 22, 3)) (kk : W p l e R s m args below meth c H locs cells slots Q (F0 m (pc + 3) ls (.ref (ad (rf q 4)) :: rest))) : W p l e R s m args below meth c H locs cells slots Q (F0 m pc ls (.ref (ad q) :: rest)) := rgR C0 hP ho vcl_3 (by decide) rfl ig_RE (by decide) rfl rfl gw_f_RE_22 hdg kk
theorem gf_GG_147 (C0 : Cx E A RGG cc nL rt p s m args meth c) (hP : Wd E ad js x H) (ho : isO js q 3) (hdg : decode cc pc = .ok (.getfield 147, 3)) (kk : W p l e R s m args below meth c H locs cells slots Q (F0 m (pc + 3) ls (.ref (ad (rf q 4)) :: rest))) : W p l e R s m args below meth c H locs cells slots Q (F0 m pc ls (.ref (ad q) :: rest)) := rgRN C0 hP ho vcl_3 (by decide) rfl ig_RE (by decide) rfl rfl gw_f_GG_147 hdg kk
theorem gf_RE_38 (C0 : Cx E A RRE cc nL rt p s m args meth c) (hP : Wd E ad js x H) (ho : isO js q 3) (hdg : decode cc pc = .ok (.getfield 38, 3)) (kk : W p l e R s m args below meth c H locs cells slots Q (F0 m (pc + 3) ls (.int (gi x q 5) :: rest))) : W p l e R s m args below meth c H locs cells slots Q (F0 m pc ls (.ref (ad q) :: rest)) := rgI C0 hP ho vcl_3 (by decide) rfl ig_RE (by decide) rfl rfl gw_f_RE_38 hdg kk
theorem pf_RE_38 (C0 : Cx E A RRE cc nL rt p s m args meth c) (hap : Ap ad js A) (hP : Wd E ad js x H) (hS : va_S A s.heap H locs) {v : Int32} (ho : isO js q 3) (hy : si x q 5 v = y) (hdg : decode cc pc = .ok (.putfield 38, 3)) (kk : ∀ H1 locs1, Wd E ad js y H1 → va_S A s.heap H1 locs1 → W p l e R s m args below meth c H1 locs1 cells slots Q (F0 m (pc + 3) ls rest)) : W p l e R s m args below meth c H locs cells slots Q (F0 m pc ls (.int v :: .ref (ad q) :: rest)) := by
  subst hy
  exact rpI C0 hap hP hS ho vcl_3 (by decide) rfl ig_RE ty_RE nm_RE (by decide) rfl rfl rfl rfl gw_f_RE_38 hdg kk
theorem gf_RE_142 (C0 : Cx E A RRE cc nL rt p s m args meth c) (hP : Wd E ad js x H) (ho : isO js q 3) (hdg : decode cc pc = .ok (.getfield 142, 3)) (kk : W p l e R s m args below meth c H locs cells slots Q (F0 m (pc + 3) ls (.int (gi x q 6) :: rest))) : W p l e R s m args below meth c H locs cells slots Q (F0 m pc ls (.ref (ad q) :: rest)) := rgI C0 hP ho vcl_3 (by decide) rfl ig_RE (by decide) rfl rfl gw_f_RE_142 hdg kk
theorem pf_RE_142 (C0 : Cx E A RRE cc nL rt p s m args meth c) (hap : Ap ad js A) (hP : Wd E ad js x H) (hS : va_S A s.heap H locs) {v : Int32} (ho : isO js q 3) (hy : si x q 6 v = y) (hdg : decode cc pc = .ok (.putfield 142, 3)) (kk : ∀ H1 locs1, Wd E ad js y H1 → va_S A s.heap H1 locs1 → W p l e R s m args below meth c H1 locs1 cells slots Q (F0 m (pc + 3) ls rest)) : W p l e R s m args below meth c H locs cells slots Q (F0 m pc ls (.int v :: .ref (ad q) :: rest)) := by
  subst hy
  exact rpI C0 hap hP hS ho vcl_3 (by decide) rfl ig_RE ty_RE nm_RE (by decide) rfl rfl rfl rfl gw_f_RE_142 hdg kk
theorem gf_RE_120 (C0 : Cx E A RRE cc nL rt p s m args meth c) (hP : Wd E ad js x H) (ho : isO js q 3) (hdg : decode cc pc = .ok (.getfield 120, 3)) (kk : W p l e R s m args below meth c H locs cells slots Q (F0 m (pc + 3) ls (.int (gi x q 7) :: rest))) : W p l e R s m args below meth c H locs cells slots Q (F0 m pc ls (.ref (ad q) :: rest)) := rgI C0 hP ho vcl_3 (by decide) rfl ig_RE (by decide) rfl rfl gw_f_RE_120 hdg kk
theorem pf_RE_120 (C0 : Cx E A RRE cc nL rt p s m args meth c) (hap : Ap ad js A) (hP : Wd E ad js x H) (hS : va_S A s.heap H locs) {v : Int32} (ho : isO js q 3) (hy : si x q 7 v = y) (hdg : decode cc pc = .ok (.putfield 120, 3)) (kk : ∀ H1 locs1, Wd E ad js y H1 → va_S A s.heap H1 locs1 → W p l e R s m args below meth c H1 locs1 cells slots Q (F0 m (pc + 3) ls rest)) : W p l e R s m args below meth c H locs cells slots Q (F0 m pc ls (.int v :: .ref (ad q) :: rest)) := by
  subst hy
  exact rpI C0 hap hP hS ho vcl_3 (by decide) rfl ig_RE ty_RE nm_RE (by decide) rfl rfl rfl rfl gw_f_RE_120 hdg kk
theorem gf_HI_9 (C0 : Cx E A RHI cc nL rt p s m args meth c) (hP : Wd E ad js x H) (ho : isO js q 0) (hdg : decode cc pc = .ok (.getfield 9, 3)) (kk : W p l e R s m args below meth c H locs cells slots Q (F0 m (pc + 3) ls (.ref (ad (rf q 0)) :: rest))) : W p l e R s m args below meth c H locs cells slots Q (F0 m pc ls (.ref (ad q) :: rest)) := rgR C0 hP ho vcl_0 (by decide) rfl ig_HI (by decide) rfl rfl gw_f_HI_9 hdg kk
theorem gf_HI_15 (C0 : Cx E A RHI cc nL rt p s m args meth c) (hP : Wd E ad js x H) (ho : isO js q 0) (hdg : decode cc pc = .ok (.getfield 15, 3)) (kk : W p l e R s m args below meth c H locs cells slots Q (F0 m (pc + 3) ls (.ref (ad (rf q 1)) :: rest))) : W p l e R s m args below meth c H locs cells slots Q (F0 m pc ls (.ref (ad q) :: rest)) := rgR C0 hP ho vcl_0 (by decide) rfl ig_HI (by decide) rfl rfl gw_f_HI_15 hdg kk
theorem gf_HI_19 (C0 : Cx E A RHI cc nL rt p s m args meth c) (hP : Wd E ad js x H) (ho : isO js q 0) (hdg : decode cc pc = .ok (.getfield 19, 3)) (kk : W p l e R s m args below meth c H locs cells slots Q (F0 m (pc + 3) ls (.ref (ad (rf q 2)) :: rest))) : W p l e R s m args below meth c H locs cells slots Q (F0 m pc ls (.ref (ad q) :: rest)) := rgR C0 hP ho vcl_0 (by decide) rfl ig_HI (by decide) rfl rfl gw_f_HI_19 hdg kk
theorem gf_HI_40 (C0 : Cx E A RHI cc nL rt p s m args meth c) (hP : Wd E ad js x H) (ho : isO js q 0) (hdg : decode cc pc = .ok (.getfield 40, 3)) (kk : W p l e R s m args below meth c H locs cells slots Q (F0 m (pc + 3) ls (.int (gi x q 3) :: rest))) : W p l e R s m args below meth c H locs cells slots Q (F0 m pc ls (.ref (ad q) :: rest)) := rgI C0 hP ho vcl_0 (by decide) rfl ig_HI (by decide) rfl rfl gw_f_HI_40 hdg kk
theorem pf_HI_40 (C0 : Cx E A RHI cc nL rt p s m args meth c) (hap : Ap ad js A) (hP : Wd E ad js x H) (hS : va_S A s.heap H locs) {v : Int32} (ho : isO js q 0) (hy : si x q 3 v = y) (hdg : decode cc pc = .ok (.putfield 40, 3)) (kk : ∀ H1 locs1, Wd E ad js y H1 → va_S A s.heap H1 locs1 → W p l e R s m args below meth c H1 locs1 cells slots Q (F0 m (pc + 3) ls rest)) : W p l e R s m args below meth c H locs cells slots Q (F0 m pc ls (.int v :: .ref (ad q) :: rest)) := by
  subst hy
  exact rpI C0 hap hP hS ho vcl_0 (by decide) rfl ig_HI ty_HI nm_HI (by decide) rfl rfl rfl rfl gw_f_HI_40 hdg kk
theorem gf_OU_9 (C0 : Cx E A ROU cc nL rt p s m args meth c) (hP : Wd E ad js x H) (ho : isO js q 2) (hdg : decode cc pc = .ok (.getfield 9, 3)) (kk : W p l e R s m args below meth c H locs cells slots Q (F0 m (pc + 3) ls (.ref (ad (rf q 0)) :: rest))) : W p l e R s m args below meth c H locs cells slots Q (F0 m pc ls (.ref (ad q) :: rest)) := rgR C0 hP ho vcl_2 (by decide) rfl ig_OU (by decide) rfl rfl gw_f_OU_9 hdg kk
theorem gf_OU_15 (C0 : Cx E A ROU cc nL rt p s m args meth c) (hP : Wd E ad js x H) (ho : isO js q 2) (hdg : decode cc pc = .ok (.getfield 15, 3)) (kk : W p l e R s m args below meth c H locs cells slots Q (F0 m (pc + 3) ls (.ref (ad (rf q 1)) :: rest))) : W p l e R s m args below meth c H locs cells slots Q (F0 m pc ls (.ref (ad q) :: rest)) := rgR C0 hP ho vcl_2 (by decide) rfl ig_OU (by decide) rfl rfl gw_f_OU_15 hdg kk
theorem gf_OU_18 (C0 : Cx E A ROU cc nL rt p s m args meth c) (hP : Wd E ad js x H) (ho : isO js q 2) (hdg : decode cc pc = .ok (.getfield 18, 3)) (kk : W p l e R s m args below meth c H locs cells slots Q (F0 m (pc + 3) ls (.ref (ad (rf q 2)) :: rest))) : W p l e R s m args below meth c H locs cells slots Q (F0 m pc ls (.ref (ad q) :: rest)) := rgR C0 hP ho vcl_2 (by decide) rfl ig_OU (by decide) rfl rfl gw_f_OU_18 hdg kk
theorem gf_OU_21 (C0 : Cx E A ROU cc nL rt p s m args meth c) (hP : Wd E ad js x H) (ho : isO js q 2) (hdg : decode cc pc = .ok (.getfield 21, 3)) (kk : W p l e R s m args below meth c H locs cells slots Q (F0 m (pc + 3) ls (.ref (ad (rf q 3)) :: rest))) : W p l e R s m args below meth c H locs cells slots Q (F0 m pc ls (.ref (ad q) :: rest)) := rgR C0 hP ho vcl_2 (by decide) rfl ig_OU (by decide) rfl rfl gw_f_OU_21 hdg kk
theorem gf_OU_24 (C0 : Cx E A ROU cc nL rt p s m args meth c) (hP : Wd E ad js x H) (ho : isO js q 2) (hdg : decode cc pc = .ok (.getfield 24, 3)) (kk : W p l e R s m args below meth c H locs cells slots Q (F0 m (pc + 3) ls (.ref (ad (rf q 4)) :: rest))) : W p l e R s m args below meth c H locs cells slots Q (F0 m pc ls (.ref (ad q) :: rest)) := rgR C0 hP ho vcl_2 (by decide) rfl ig_OU (by decide) rfl rfl gw_f_OU_24 hdg kk
theorem gf_OU_28 (C0 : Cx E A ROU cc nL rt p s m args meth c) (hP : Wd E ad js x H) (ho : isO js q 2) (hdg : decode cc pc = .ok (.getfield 28, 3)) (kk : W p l e R s m args below meth c H locs cells slots Q (F0 m (pc + 3) ls (.ref (ad (rf q 5)) :: rest))) : W p l e R s m args below meth c H locs cells slots Q (F0 m pc ls (.ref (ad q) :: rest)) := rgR C0 hP ho vcl_2 (by decide) rfl ig_OU (by decide) rfl rfl gw_f_OU_28 hdg kk
theorem gf_GG_12 (C0 : Cx E A RGG cc nL rt p s m args meth c) (hP : Wd E ad js x H) (ho : isO js q 5) (hdg : decode cc pc = .ok (.getfield 12, 3)) (kk : W p l e R s m args below meth c H locs cells slots Q (F0 m (pc + 3) ls (.ref (ad (rf q 0)) :: rest))) : W p l e R s m args below meth c H locs cells slots Q (F0 m pc ls (.ref (ad q) :: rest)) := rgR C0 hP ho vcl_5 (by decide) rfl ig_GG (by decide) rfl rfl gw_f_GG_12 hdg kk
theorem gf_GG_16 (C0 : Cx E A RGG cc nL rt p s m args meth c) (hP : Wd E ad js x H) (ho : isO js q 5) (hdg : decode cc pc = .ok (.getfield 16, 3)) (kk : W p l e R s m args below meth c H locs cells slots Q (F0 m (pc + 3) ls (.ref (ad (rf q 1)) :: rest))) : W p l e R s m args below meth c H locs cells slots Q (F0 m pc ls (.ref (ad q) :: rest)) := rgR C0 hP ho vcl_5 (by decide) rfl ig_GG (by decide) rfl rfl gw_f_GG_16 hdg kk
theorem gf_GG_20 (C0 : Cx E A RGG cc nL rt p s m args meth c) (hP : Wd E ad js x H) (ho : isO js q 5) (hdg : decode cc pc = .ok (.getfield 20, 3)) (kk : W p l e R s m args below meth c H locs cells slots Q (F0 m (pc + 3) ls (.ref (ad (rf q 2)) :: rest))) : W p l e R s m args below meth c H locs cells slots Q (F0 m pc ls (.ref (ad q) :: rest)) := rgR C0 hP ho vcl_5 (by decide) rfl ig_GG (by decide) rfl rfl gw_f_GG_20 hdg kk
theorem gf_GG_27 (C0 : Cx E A RGG cc nL rt p s m args meth c) (hP : Wd E ad js x H) (ho : isO js q 5) (hdg : decode cc pc = .ok (.getfield 27, 3)) (kk : W p l e R s m args below meth c H locs cells slots Q (F0 m (pc + 3) ls (.ref (ad (rf q 3)) :: rest))) : W p l e R s m args below meth c H locs cells slots Q (F0 m pc ls (.ref (ad q) :: rest)) := rgR C0 hP ho vcl_5 (by decide) rfl ig_GG (by decide) rfl rfl gw_f_GG_27 hdg kk
theorem gf_GG_34 (C0 : Cx E A RGG cc nL rt p s m args meth c) (hP : Wd E ad js x H) (ho : isO js q 5) (hdg : decode cc pc = .ok (.getfield 34, 3)) (kk : W p l e R s m args below meth c H locs cells slots Q (F0 m (pc + 3) ls (.ref (ad (rf q 4)) :: rest))) : W p l e R s m args below meth c H locs cells slots Q (F0 m pc ls (.ref (ad q) :: rest)) := rgR C0 hP ho vcl_5 (by decide) rfl ig_GG (by decide) rfl rfl gw_f_GG_34 hdg kk
theorem gf_GG_41 (C0 : Cx E A RGG cc nL rt p s m args meth c) (hP : Wd E ad js x H) (ho : isO js q 5) (hdg : decode cc pc = .ok (.getfield 41, 3)) (kk : W p l e R s m args below meth c H locs cells slots Q (F0 m (pc + 3) ls (.ref (ad (rf q 5)) :: rest))) : W p l e R s m args below meth c H locs cells slots Q (F0 m pc ls (.ref (ad q) :: rest)) := rgR C0 hP ho vcl_5 (by decide) rfl ig_GG (by decide) rfl rfl gw_f_GG_41 hdg kk
theorem gf_GG_200 (C0 : Cx E A RGG cc nL rt p s m args meth c) (hP : Wd E ad js x H) (ho : isO js q 5) (hdg : decode cc pc = .ok (.getfield 200, 3)) (kk : W p l e R s m args below meth c H locs cells slots Q (F0 m (pc + 3) ls (.long (gl x q 6) :: rest))) : W p l e R s m args below meth c H locs cells slots Q (F0 m pc ls (.ref (ad q) :: rest)) := rgL C0 hP ho vcl_5 (by decide) rfl ig_GG (by decide) rfl rfl gw_f_GG_200 hdg kk
theorem pf_GG_200 (C0 : Cx E A RGG cc nL rt p s m args meth c) (hap : Ap ad js A) (hP : Wd E ad js x H) (hS : va_S A s.heap H locs) {v : Int64} (ho : isO js q 5) (hy : sl x q 6 v = y) (hdg : decode cc pc = .ok (.putfield 200, 3)) (kk : ∀ H1 locs1, Wd E ad js y H1 → va_S A s.heap H1 locs1 → W p l e R s m args below meth c H1 locs1 cells slots Q (F0 m (pc + 3) ls rest)) : W p l e R s m args below meth c H locs cells slots Q (F0 m pc ls (.long v :: .ref (ad q) :: rest)) := by
  subst hy
  exact rpL C0 hap hP hS ho vcl_5 (by decide) rfl ig_GG ty_GG nm_GG (by decide) rfl rfl rfl rfl gw_f_GG_200 hdg kk
theorem gf_GG_45 (C0 : Cx E A RGG cc nL rt p s m args meth c) (hP : Wd E ad js x H) (ho : isO js q 5) (hdg : decode cc pc = .ok (.getfield 45, 3)) (kk : W p l e R s m args below meth c H locs cells slots Q (F0 m (pc + 3) ls (.long (gl x q 7) :: rest))) : W p l e R s m args below meth c H locs cells slots Q (F0 m pc ls (.ref (ad q) :: rest)) := rgL C0 hP ho vcl_5 (by decide) rfl ig_GG (by decide) rfl rfl gw_f_GG_45 hdg kk
theorem pf_GG_45 (C0 : Cx E A RGG cc nL rt p s m args meth c) (hap : Ap ad js A) (hP : Wd E ad js x H) (hS : va_S A s.heap H locs) {v : Int64} (ho : isO js q 5) (hy : sl x q 7 v = y) (hdg : decode cc pc = .ok (.putfield 45, 3)) (kk : ∀ H1 locs1, Wd E ad js y H1 → va_S A s.heap H1 locs1 → W p l e R s m args below meth c H1 locs1 cells slots Q (F0 m (pc + 3) ls rest)) : W p l e R s m args below meth c H locs cells slots Q (F0 m pc ls (.long v :: .ref (ad q) :: rest)) := by
  subst hy
  exact rpL C0 hap hP hS ho vcl_5 (by decide) rfl ig_GG ty_GG nm_GG (by decide) rfl rfl rfl rfl gw_f_GG_45 hdg kk
theorem gf_GG_207 (C0 : Cx E A RGG cc nL rt p s m args meth c) (hP : Wd E ad js x H) (ho : isO js q 5) (hdg : decode cc pc = .ok (.getfield 207, 3)) (kk : W p l e R s m args below meth c H locs cells slots Q (F0 m (pc + 3) ls (.int (gi x q 8) :: rest))) : W p l e R s m args below meth c H locs cells slots Q (F0 m pc ls (.ref (ad q) :: rest)) := rgI C0 hP ho vcl_5 (by decide) rfl ig_GG (by decide) rfl rfl gw_f_GG_207 hdg kk
theorem pf_GG_207 (C0 : Cx E A RGG cc nL rt p s m args meth c) (hap : Ap ad js A) (hP : Wd E ad js x H) (hS : va_S A s.heap H locs) {v : Int32} (ho : isO js q 5) (hy : si x q 8 v = y) (hdg : decode cc pc = .ok (.putfield 207, 3)) (kk : ∀ H1 locs1, Wd E ad js y H1 → va_S A s.heap H1 locs1 → W p l e R s m args below meth c H1 locs1 cells slots Q (F0 m (pc + 3) ls rest)) : W p l e R s m args below meth c H locs cells slots Q (F0 m pc ls (.int v :: .ref (ad q) :: rest)) := by
  subst hy
  exact rpI C0 hap hP hS ho vcl_5 (by decide) rfl ig_GG ty_GG nm_GG (by decide) rfl rfl rfl rfl gw_f_GG_207 hdg kk
theorem gf_GG_210 (C0 : Cx E A RGG cc nL rt p s m args meth c) (hP : Wd E ad js x H) (ho : isO js q 5) (hdg : decode cc pc = .ok (.getfield 210, 3)) (kk : W p l e R s m args below meth c H locs cells slots Q (F0 m (pc + 3) ls (.int (gi x q 9) :: rest))) : W p l e R s m args below meth c H locs cells slots Q (F0 m pc ls (.ref (ad q) :: rest)) := rgI C0 hP ho vcl_5 (by decide) rfl ig_GG (by decide) rfl rfl gw_f_GG_210 hdg kk
theorem pf_GG_210 (C0 : Cx E A RGG cc nL rt p s m args meth c) (hap : Ap ad js A) (hP : Wd E ad js x H) (hS : va_S A s.heap H locs) {v : Int32} (ho : isO js q 5) (hy : si x q 9 v = y) (hdg : decode cc pc = .ok (.putfield 210, 3)) (kk : ∀ H1 locs1, Wd E ad js y H1 → va_S A s.heap H1 locs1 → W p l e R s m args below meth c H1 locs1 cells slots Q (F0 m (pc + 3) ls rest)) : W p l e R s m args below meth c H locs cells slots Q (F0 m pc ls (.int v :: .ref (ad q) :: rest)) := by
  subst hy
  exact rpI C0 hap hP hS ho vcl_5 (by decide) rfl ig_GG ty_GG nm_GG (by decide) rfl rfl rfl rfl gw_f_GG_210 hdg kk
theorem gf_GG_213 (C0 : Cx E A RGG cc nL rt p s m args meth c) (hP : Wd E ad js x H) (ho : isO js q 5) (hdg : decode cc pc = .ok (.getfield 213, 3)) (kk : W p l e R s m args below meth c H locs cells slots Q (F0 m (pc + 3) ls (.int (gi x q 10) :: rest))) : W p l e R s m args below meth c H locs cells slots Q (F0 m pc ls (.ref (ad q) :: rest)) := rgI C0 hP ho vcl_5 (by decide) rfl ig_GG (by decide) rfl rfl gw_f_GG_213 hdg kk
theorem pf_GG_213 (C0 : Cx E A RGG cc nL rt p s m args meth c) (hap : Ap ad js A) (hP : Wd E ad js x H) (hS : va_S A s.heap H locs) {v : Int32} (ho : isO js q 5) (hy : si x q 10 v = y) (hdg : decode cc pc = .ok (.putfield 213, 3)) (kk : ∀ H1 locs1, Wd E ad js y H1 → va_S A s.heap H1 locs1 → W p l e R s m args below meth c H1 locs1 cells slots Q (F0 m (pc + 3) ls rest)) : W p l e R s m args below meth c H locs cells slots Q (F0 m pc ls (.int v :: .ref (ad q) :: rest)) := by
  subst hy
  exact rpI C0 hap hP hS ho vcl_5 (by decide) rfl ig_GG ty_GG nm_GG (by decide) rfl rfl rfl rfl gw_f_GG_213 hdg kk
theorem gf_MO_7 (C0 : Cx E A RMO cc nL rt p s m args meth c) (hP : Wd E ad js x H) (ho : isO js q 6) (hdg : decode cc pc = .ok (.getfield 7, 3)) (kk : W p l e R s m args below meth c H locs cells slots Q (F0 m (pc + 3) ls (.ref (ad (rf q 0)) :: rest))) : W p l e R s m args below meth c H locs cells slots Q (F0 m pc ls (.ref (ad q) :: rest)) := rgR C0 hP ho vcl_6 (by decide) rfl ig_MO (by decide) rfl rfl gw_f_MO_7 hdg kk
theorem gf_MO_57 (C0 : Cx E A RMO cc nL rt p s m args meth c) (hP : Wd E ad js x H) (ho : isO js q 6) (hdg : decode cc pc = .ok (.getfield 57, 3)) (kk : W p l e R s m args below meth c H locs cells slots Q (F0 m (pc + 3) ls (.int (gi x q 1) :: rest))) : W p l e R s m args below meth c H locs cells slots Q (F0 m pc ls (.ref (ad q) :: rest)) := rgI C0 hP ho vcl_6 (by decide) rfl ig_MO (by decide) rfl rfl gw_f_MO_57 hdg kk
theorem pf_MO_57 (C0 : Cx E A RMO cc nL rt p s m args meth c) (hap : Ap ad js A) (hP : Wd E ad js x H) (hS : va_S A s.heap H locs) {v : Int32} (ho : isO js q 6) (hy : si x q 1 v = y) (hdg : decode cc pc = .ok (.putfield 57, 3)) (kk : ∀ H1 locs1, Wd E ad js y H1 → va_S A s.heap H1 locs1 → W p l e R s m args below meth c H1 locs1 cells slots Q (F0 m (pc + 3) ls rest)) : W p l e R s m args below meth c H locs cells slots Q (F0 m pc ls (.int v :: .ref (ad q) :: rest)) := by
  subst hy
  exact rpI C0 hap hP hS ho vcl_6 (by decide) rfl ig_MO ty_MO nm_MO (by decide) rfl rfl rfl rfl gw_f_MO_57 hdg kk
theorem gf_MO_13 (C0 : Cx E A RMO cc nL rt p s m args meth c) (hP : Wd E ad js x H) (ho : isO js q 6) (hdg : decode cc pc = .ok (.getfield 13, 3)) (kk : W p l e R s m args below meth c H locs cells slots Q (F0 m (pc + 3) ls (.ref (ad (rf q 2)) :: rest))) : W p l e R s m args below meth c H locs cells slots Q (F0 m pc ls (.ref (ad q) :: rest)) := rgR C0 hP ho vcl_6 (by decide) rfl ig_MO (by decide) rfl rfl gw_f_MO_13 hdg kk
theorem gf_MO_17 (C0 : Cx E A RMO cc nL rt p s m args meth c) (hP : Wd E ad js x H) (ho : isO js q 6) (hdg : decode cc pc = .ok (.getfield 17, 3)) (kk : W p l e R s m args below meth c H locs cells slots Q (F0 m (pc + 3) ls (.ref (ad (rf q 3)) :: rest))) : W p l e R s m args below meth c H locs cells slots Q (F0 m pc ls (.ref (ad q) :: rest)) := rgR C0 hP ho vcl_6 (by decide) rfl ig_MO (by decide) rfl rfl gw_f_MO_17 hdg kk
theorem gf_MO_224 (C0 : Cx E A RMO cc nL rt p s m args meth c) (hP : Wd E ad js x H) (ho : isO js q 6) (hdg : decode cc pc = .ok (.getfield 224, 3)) (kk : W p l e R s m args below meth c H locs cells slots Q (F0 m (pc + 3) ls (.long (gl x q 4) :: rest))) : W p l e R s m args below meth c H locs cells slots Q (F0 m pc ls (.ref (ad q) :: rest)) := rgL C0 hP ho vcl_6 (by decide) rfl ig_MO (by decide) rfl rfl gw_f_MO_224 hdg kk
theorem pf_MO_224 (C0 : Cx E A RMO cc nL rt p s m args meth c) (hap : Ap ad js A) (hP : Wd E ad js x H) (hS : va_S A s.heap H locs) {v : Int64} (ho : isO js q 6) (hy : sl x q 4 v = y) (hdg : decode cc pc = .ok (.putfield 224, 3)) (kk : ∀ H1 locs1, Wd E ad js y H1 → va_S A s.heap H1 locs1 → W p l e R s m args below meth c H1 locs1 cells slots Q (F0 m (pc + 3) ls rest)) : W p l e R s m args below meth c H locs cells slots Q (F0 m pc ls (.long v :: .ref (ad q) :: rest)) := by
  subst hy
  exact rpL C0 hap hP hS ho vcl_6 (by decide) rfl ig_MO ty_MO nm_MO (by decide) rfl rfl rfl rfl gw_f_MO_224 hdg kk
theorem gf_MO_53 (C0 : Cx E A RMO cc nL rt p s m args meth c) (hP : Wd E ad js x H) (ho : isO js q 6) (hdg : decode cc pc = .ok (.getfield 53, 3)) (kk : W p l e R s m args below meth c H locs cells slots Q (F0 m (pc + 3) ls (.long (gl x q 5) :: rest))) : W p l e R s m args below meth c H locs cells slots Q (F0 m pc ls (.ref (ad q) :: rest)) := rgL C0 hP ho vcl_6 (by decide) rfl ig_MO (by decide) rfl rfl gw_f_MO_53 hdg kk
theorem pf_MO_53 (C0 : Cx E A RMO cc nL rt p s m args meth c) (hap : Ap ad js A) (hP : Wd E ad js x H) (hS : va_S A s.heap H locs) {v : Int64} (ho : isO js q 6) (hy : sl x q 5 v = y) (hdg : decode cc pc = .ok (.putfield 53, 3)) (kk : ∀ H1 locs1, Wd E ad js y H1 → va_S A s.heap H1 locs1 → W p l e R s m args below meth c H1 locs1 cells slots Q (F0 m (pc + 3) ls rest)) : W p l e R s m args below meth c H locs cells slots Q (F0 m pc ls (.long v :: .ref (ad q) :: rest)) := by
  subst hy
  exact rpL C0 hap hP hS ho vcl_6 (by decide) rfl ig_MO ty_MO nm_MO (by decide) rfl rfl rfl rfl gw_f_MO_53 hdg kk
theorem gf_MO_20 (C0 : Cx E A RMO cc nL rt p s m args meth c) (hP : Wd E ad js x H) (ho : isO js q 6) (hdg : decode cc pc = .ok (.getfield 20, 3)) (kk : W p l e R s m args below meth c H locs cells slots Q (F0 m (pc + 3) ls (.ref (ad (rf q 6)) :: rest))) : W p l e R s m args below meth c H locs cells slots Q (F0 m pc ls (.ref (ad q) :: rest)) := rgR C0 hP ho vcl_6 (by decide) rfl ig_MO (by decide) rfl rfl gw_f_MO_20 hdg kk
theorem gf_MO_118 (C0 : Cx E A RMO cc nL rt p s m args meth c) (hP : Wd E ad js x H) (ho : isO js q 6) (hdg : decode cc pc = .ok (.getfield 118, 3)) (kk : W p l e R s m args below meth c H locs cells slots Q (F0 m (pc + 3) ls (.int (gi x q 7) :: rest))) : W p l e R s m args below meth c H locs cells slots Q (F0 m pc ls (.ref (ad q) :: rest)) := rgI C0 hP ho vcl_6 (by decide) rfl ig_MO (by decide) rfl rfl gw_f_MO_118 hdg kk
theorem pf_MO_118 (C0 : Cx E A RMO cc nL rt p s m args meth c) (hap : Ap ad js A) (hP : Wd E ad js x H) (hS : va_S A s.heap H locs) {v : Int32} (ho : isO js q 6) (hy : si x q 7 v = y) (hdg : decode cc pc = .ok (.putfield 118, 3)) (kk : ∀ H1 locs1, Wd E ad js y H1 → va_S A s.heap H1 locs1 → W p l e R s m args below meth c H1 locs1 cells slots Q (F0 m (pc + 3) ls rest)) : W p l e R s m args below meth c H locs cells slots Q (F0 m pc ls (.int v :: .ref (ad q) :: rest)) := by
  subst hy
  exact rpI C0 hap hP hS ho vcl_6 (by decide) rfl ig_MO ty_MO nm_MO (by decide) rfl rfl rfl rfl gw_f_MO_118 hdg kk
theorem gf_MO_123 (C0 : Cx E A RMO cc nL rt p s m args meth c) (hP : Wd E ad js x H) (ho : isO js q 6) (hdg : decode cc pc = .ok (.getfield 123, 3)) (kk : W p l e R s m args below meth c H locs cells slots Q (F0 m (pc + 3) ls (.int (gi x q 8) :: rest))) : W p l e R s m args below meth c H locs cells slots Q (F0 m pc ls (.ref (ad q) :: rest)) := rgI C0 hP ho vcl_6 (by decide) rfl ig_MO (by decide) rfl rfl gw_f_MO_123 hdg kk
theorem pf_MO_123 (C0 : Cx E A RMO cc nL rt p s m args meth c) (hap : Ap ad js A) (hP : Wd E ad js x H) (hS : va_S A s.heap H locs) {v : Int32} (ho : isO js q 6) (hy : si x q 8 v = y) (hdg : decode cc pc = .ok (.putfield 123, 3)) (kk : ∀ H1 locs1, Wd E ad js y H1 → va_S A s.heap H1 locs1 → W p l e R s m args below meth c H1 locs1 cells slots Q (F0 m (pc + 3) ls rest)) : W p l e R s m args below meth c H locs cells slots Q (F0 m pc ls (.int v :: .ref (ad q) :: rest)) := by
  subst hy
  exact rpI C0 hap hP hS ho vcl_6 (by decide) rfl ig_MO ty_MO nm_MO (by decide) rfl rfl rfl rfl gw_f_MO_123 hdg kk
theorem gf_MO_131 (C0 : Cx E A RMO cc nL rt p s m args meth c) (hP : Wd E ad js x H) (ho : isO js q 6) (hdg : decode cc pc = .ok (.getfield 131, 3)) (kk : W p l e R s m args below meth c H locs cells slots Q (F0 m (pc + 3) ls (.int (gi x q 9) :: rest))) : W p l e R s m args below meth c H locs cells slots Q (F0 m pc ls (.ref (ad q) :: rest)) := rgI C0 hP ho vcl_6 (by decide) rfl ig_MO (by decide) rfl rfl gw_f_MO_131 hdg kk
theorem pf_MO_131 (C0 : Cx E A RMO cc nL rt p s m args meth c) (hap : Ap ad js A) (hP : Wd E ad js x H) (hS : va_S A s.heap H locs) {v : Int32} (ho : isO js q 6) (hy : si x q 9 v = y) (hdg : decode cc pc = .ok (.putfield 131, 3)) (kk : ∀ H1 locs1, Wd E ad js y H1 → va_S A s.heap H1 locs1 → W p l e R s m args below meth c H1 locs1 cells slots Q (F0 m (pc + 3) ls rest)) : W p l e R s m args below meth c H locs cells slots Q (F0 m pc ls (.int v :: .ref (ad q) :: rest)) := by
  subst hy
  exact rpI C0 hap hP hS ho vcl_6 (by decide) rfl ig_MO ty_MO nm_MO (by decide) rfl rfl rfl rfl gw_f_MO_131 hdg kk
theorem gf_MO_137 (C0 : Cx E A RMO cc nL rt p s m args meth c) (hP : Wd E ad js x H) (ho : isO js q 6) (hdg : decode cc pc = .ok (.getfield 137, 3)) (kk : W p l e R s m args below meth c H locs cells slots Q (F0 m (pc + 3) ls (.int (gi x q 10) :: rest))) : W p l e R s m args below meth c H locs cells slots Q (F0 m pc ls (.ref (ad q) :: rest)) := rgI C0 hP ho vcl_6 (by decide) rfl ig_MO (by decide) rfl rfl gw_f_MO_137 hdg kk
theorem pf_MO_137 (C0 : Cx E A RMO cc nL rt p s m args meth c) (hap : Ap ad js A) (hP : Wd E ad js x H) (hS : va_S A s.heap H locs) {v : Int32} (ho : isO js q 6) (hy : si x q 10 v = y) (hdg : decode cc pc = .ok (.putfield 137, 3)) (kk : ∀ H1 locs1, Wd E ad js y H1 → va_S A s.heap H1 locs1 → W p l e R s m args below meth c H1 locs1 cells slots Q (F0 m (pc + 3) ls rest)) : W p l e R s m args below meth c H locs cells slots Q (F0 m pc ls (.int v :: .ref (ad q) :: rest)) := by
  subst hy
  exact rpI C0 hap hP hS ho vcl_6 (by decide) rfl ig_MO ty_MO nm_MO (by decide) rfl rfl rfl rfl gw_f_MO_137 hdg kk
theorem gf_MO_134 (C0 : Cx E A RMO cc nL rt p s m args meth c) (hP : Wd E ad js x H) (ho : isO js q 6) (hdg : decode cc pc = .ok (.getfield 134, 3)) (kk : W p l e R s m args below meth c H locs cells slots Q (F0 m (pc + 3) ls (.int (gi x q 11) :: rest))) : W p l e R s m args below meth c H locs cells slots Q (F0 m pc ls (.ref (ad q) :: rest)) := rgI C0 hP ho vcl_6 (by decide) rfl ig_MO (by decide) rfl rfl gw_f_MO_134 hdg kk
theorem pf_MO_134 (C0 : Cx E A RMO cc nL rt p s m args meth c) (hap : Ap ad js A) (hP : Wd E ad js x H) (hS : va_S A s.heap H locs) {v : Int32} (ho : isO js q 6) (hy : si x q 11 v = y) (hdg : decode cc pc = .ok (.putfield 134, 3)) (kk : ∀ H1 locs1, Wd E ad js y H1 → va_S A s.heap H1 locs1 → W p l e R s m args below meth c H1 locs1 cells slots Q (F0 m (pc + 3) ls rest)) : W p l e R s m args below meth c H locs cells slots Q (F0 m pc ls (.int v :: .ref (ad q) :: rest)) := by
  subst hy
  exact rpI C0 hap hP hS ho vcl_6 (by decide) rfl ig_MO ty_MO nm_MO (by decide) rfl rfl rfl rfl gw_f_MO_134 hdg kk
theorem gf_MO_144 (C0 : Cx E A RMO cc nL rt p s m args meth c) (hP : Wd E ad js x H) (ho : isO js q 6) (hdg : decode cc pc = .ok (.getfield 144, 3)) (kk : W p l e R s m args below meth c H locs cells slots Q (F0 m (pc + 3) ls (.int (gi x q 12) :: rest))) : W p l e R s m args below meth c H locs cells slots Q (F0 m pc ls (.ref (ad q) :: rest)) := rgI C0 hP ho vcl_6 (by decide) rfl ig_MO (by decide) rfl rfl gw_f_MO_144 hdg kk
theorem pf_MO_144 (C0 : Cx E A RMO cc nL rt p s m args meth c) (hap : Ap ad js A) (hP : Wd E ad js x H) (hS : va_S A s.heap H locs) {v : Int32} (ho : isO js q 6) (hy : si x q 12 v = y) (hdg : decode cc pc = .ok (.putfield 144, 3)) (kk : ∀ H1 locs1, Wd E ad js y H1 → va_S A s.heap H1 locs1 → W p l e R s m args below meth c H1 locs1 cells slots Q (F0 m (pc + 3) ls rest)) : W p l e R s m args below meth c H locs cells slots Q (F0 m pc ls (.int v :: .ref (ad q) :: rest)) := by
  subst hy
  exact rpI C0 hap hP hS ho vcl_6 (by decide) rfl ig_MO ty_MO nm_MO (by decide) rfl rfl rfl rfl gw_f_MO_144 hdg kk
theorem gf_MO_24 (C0 : Cx E A RMO cc nL rt p s m args meth c) (hP : Wd E ad js x H) (ho : isO js q 6) (hdg : decode cc pc = .ok (.getfield 24, 3)) (kk : W p l e R s m args below meth c H locs cells slots Q (F0 m (pc + 3) ls (.int (gi x q 13) :: rest))) : W p l e R s m args below meth c H locs cells slots Q (F0 m pc ls (.ref (ad q) :: rest)) := rgI C0 hP ho vcl_6 (by decide) rfl ig_MO (by decide) rfl rfl gw_f_MO_24 hdg kk
theorem pf_MO_24 (C0 : Cx E A RMO cc nL rt p s m args meth c) (hap : Ap ad js A) (hP : Wd E ad js x H) (hS : va_S A s.heap H locs) {v : Int32} (ho : isO js q 6) (hy : si x q 13 v = y) (hdg : decode cc pc = .ok (.putfield 24, 3)) (kk : ∀ H1 locs1, Wd E ad js y H1 → va_S A s.heap H1 locs1 → W p l e R s m args below meth c H1 locs1 cells slots Q (F0 m (pc + 3) ls rest)) : W p l e R s m args below meth c H locs cells slots Q (F0 m pc ls (.int v :: .ref (ad q) :: rest)) := by
  subst hy
  exact rpI C0 hap hP hS ho vcl_6 (by decide) rfl ig_MO ty_MO nm_MO (by decide) rfl rfl rfl rfl gw_f_MO_24 hdg kk
theorem gf_MO_28 (C0 : Cx E A RMO cc nL rt p s m args meth c) (hP : Wd E ad js x H) (ho : isO js q 6) (hdg : decode cc pc = .ok (.getfield 28, 3)) (kk : W p l e R s m args below meth c H locs cells slots Q (F0 m (pc + 3) ls (.ref (ad (rf q 14)) :: rest))) : W p l e R s m args below meth c H locs cells slots Q (F0 m pc ls (.ref (ad q) :: rest)) := rgR C0 hP ho vcl_6 (by decide) rfl ig_MO (by decide) rfl rfl gw_f_MO_28 hdg kk
theorem gf_MO_31 (C0 : Cx E A RMO cc nL rt p s m args meth c) (hP : Wd E ad js x H) (ho : isO js q 6) (hdg : decode cc pc = .ok (.getfield 31, 3)) (kk : W p l e R s m args below meth c H locs cells slots Q (F0 m (pc + 3) ls (.ref (ad (rf q 15)) :: rest))) : W p l e R s m args below meth c H locs cells slots Q (F0 m pc ls (.ref (ad q) :: rest)) := rgR C0 hP ho vcl_6 (by decide) rfl ig_MO (by decide) rfl rfl gw_f_MO_31 hdg kk
theorem gf_MO_34 (C0 : Cx E A RMO cc nL rt p s m args meth c) (hP : Wd E ad js x H) (ho : isO js q 6) (hdg : decode cc pc = .ok (.getfield 34, 3)) (kk : W p l e R s m args below meth c H locs cells slots Q (F0 m (pc + 3) ls (.ref (ad (rf q 16)) :: rest))) : W p l e R s m args below meth c H locs cells slots Q (F0 m pc ls (.ref (ad q) :: rest)) := rgR C0 hP ho vcl_6 (by decide) rfl ig_MO (by decide) rfl rfl gw_f_MO_34 hdg kk
theorem gf_MO_37 (C0 : Cx E A RMO cc nL rt p s m args meth c) (hP : Wd E ad js x H) (ho : isO js q 6) (hdg : decode cc pc = .ok (.getfield 37, 3)) (kk : W p l e R s m args below meth c H locs cells slots Q (F0 m (pc + 3) ls (.ref (ad (rf q 17)) :: rest))) : W p l e R s m args below meth c H locs cells slots Q (F0 m pc ls (.ref (ad q) :: rest)) := rgR C0 hP ho vcl_6 (by decide) rfl ig_MO (by decide) rfl rfl gw_f_MO_37 hdg kk
theorem gf_MO_40 (C0 : Cx E A RMO cc nL rt p s m args meth c) (hP : Wd E ad js x H) (ho : isO js q 6) (hdg : decode cc pc = .ok (.getfield 40, 3)) (kk : W p l e R s m args below meth c H locs cells slots Q (F0 m (pc + 3) ls (.ref (ad (rf q 18)) :: rest))) : W p l e R s m args below meth c H locs cells slots Q (F0 m pc ls (.ref (ad q) :: rest)) := rgR C0 hP ho vcl_6 (by decide) rfl ig_MO (by decide) rfl rfl gw_f_MO_40 hdg kk
theorem gf_MO_43 (C0 : Cx E A RMO cc nL rt p s m args meth c) (hP : Wd E ad js x H) (ho : isO js q 6) (hdg : decode cc pc = .ok (.getfield 43, 3)) (kk : W p l e R s m args below meth c H locs cells slots Q (F0 m (pc + 3) ls (.ref (ad (rf q 19)) :: rest))) : W p l e R s m args below meth c H locs cells slots Q (F0 m pc ls (.ref (ad q) :: rest)) := rgR C0 hP ho vcl_6 (by decide) rfl ig_MO (by decide) rfl rfl gw_f_MO_43 hdg kk
theorem gf_MO_47 (C0 : Cx E A RMO cc nL rt p s m args meth c) (hP : Wd E ad js x H) (ho : isO js q 6) (hdg : decode cc pc = .ok (.getfield 47, 3)) (kk : W p l e R s m args below meth c H locs cells slots Q (F0 m (pc + 3) ls (.ref (ad (rf q 20)) :: rest))) : W p l e R s m args below meth c H locs cells slots Q (F0 m pc ls (.ref (ad q) :: rest)) := rgR C0 hP ho vcl_6 (by decide) rfl ig_MO (by decide) rfl rfl gw_f_MO_47 hdg kk
theorem gf_MO_50 (C0 : Cx E A RMO cc nL rt p s m args meth c) (hP : Wd E ad js x H) (ho : isO js q 6) (hdg : decode cc pc = .ok (.getfield 50, 3)) (kk : W p l e R s m args below meth c H locs cells slots Q (F0 m (pc + 3) ls (.ref (ad (rf q 21)) :: rest))) : W p l e R s m args below meth c H locs cells slots Q (F0 m pc ls (.ref (ad q) :: rest)) := rgR C0 hP ho vcl_6 (by decide) rfl ig_MO (by decide) rfl rfl gw_f_MO_50 hdg kk
theorem gf_MO_229 (C0 : Cx E A RMO cc nL rt p s m args meth c) (hP : Wd E ad js x H) (ho : isO js q 6) (hdg : decode cc pc = .ok (.getfield 229, 3)) (kk : W p l e R s m args below meth c H locs cells slots Q (F0 m (pc + 3) ls (.long (gl x q 22) :: rest))) : W p l e R s m args below meth c H locs cells slots Q (F0 m pc ls (.ref (ad q) :: rest)) := rgL C0 hP ho vcl_6 (by decide) rfl ig_MO (by decide) rfl rfl gw_f_MO_229 hdg kk
theorem pf_MO_229 (C0 : Cx E A RMO cc nL rt p s m args meth c) (hap : Ap ad js A) (hP : Wd E ad js x H) (hS : va_S A s.heap H locs) {v : Int64} (ho : isO js q 6) (hy : sl x q 22 v = y) (hdg : decode cc pc = .ok (.putfield 229, 3)) (kk : ∀ H1 locs1, Wd E ad js y H1 → va_S A s.heap H1 locs1 → W p l e R s m args below meth c H1 locs1 cells slots Q (F0 m (pc + 3) ls rest)) : W p l e R s m args below meth c H locs cells slots Q (F0 m pc ls (.long v :: .ref (ad q) :: rest)) := by
  subst hy
  exact rpL C0 hap hP hS ho vcl_6 (by decide) rfl ig_MO ty_MO nm_MO (by decide) rfl rfl rfl rfl gw_f_MO_229 hdg kk
end FieldRows
