/-! ===== the world's shape: tags of objects (0 .. 12, as vwCl has them) and arrays (20 ..): how many, of what, which refer to which ===== -/
-- tag 20: Act.kinds, 6 of length 12
-- tag 21: Act.stepFields, 6 of length 12
-- tag 22: Act.numbers, 6 of length 12
-- tag 23: Act.limits, 6 of length 12
-- tag 24: Book.fields, 1 of length 24
-- tag 25: Book.laws, 1 of length 12
-- tag 26: Book.acts, 1 of length 6
-- tag 27: Chip.fieldsIn, 1 of length 8
-- tag 28: Chip.fieldsIn[], 8 of length 16
-- tag 29: Chip.fieldsInCount, 1 of length 8
-- tag 30: Chip.keptBits, 1 of length 8
-- tag 31: Chip.pulses, 1 of length 24
-- tag 32: Code.parts, 6 of length 288
-- tag 33: State.value, 8 of length 24
-- tag 34: State.pending, 8 of length 24
-- tag 35: State.timer, 8 of length 24
-- tag 36: State.soft, 8 of length 24
-- tag 37: State.lastHit, 8 of length 24
-- tag 38: State.shadow, 8 of length 8
-- tag 39: State.eventField, 8 of length 16
-- tag 40: State.eventValue, 8 of length 16
-- tag 41: State.eventTick, 8 of length 16
-- tag 42: Tape.row, 6 of length 64
-- tag 43: Walker.byAct, 1 of length 24
-- tag 44: Walker.byHandler, 1 of length 24
-- tag 45: DriverBook.tapes, 1 of length 6
-- tag 46: DriverBookModel.register, 1 of length 24
-- tag 47: DriverBookModel.low, 1 of length 24
-- tag 48: DriverBookModel.width, 1 of length 24
-- tag 49: DriverBookModel.kind, 1 of length 24
-- tag 50: DriverBookModel.reset, 1 of length 24
-- tag 51: DriverBookModel.period, 1 of length 24
-- tag 52: DriverBookModel.done, 1 of length 24
-- tag 53: DriverBookModel.handler, 1 of length 24
-- tag 54: DriverBookModel.lawKind, 1 of length 12
-- tag 55: DriverBookModel.lawF, 1 of length 12
-- tag 56: DriverBookModel.lawG, 1 of length 12
-- tag 57: DriverBookModel.lawV, 1 of length 12
-- tag 58: DriverBookModel.steps, 1 of length 6
-- tag 59: DriverBookModel.stepKind, 1 of length 72
-- tag 60: DriverBookModel.stepField, 1 of length 72
-- tag 61: DriverBookModel.stepV, 1 of length 72
-- tag 62: DriverBookModel.stepLimit, 1 of length 72
-- tag 63: DriverBookModel.value, 1 of length 24
-- tag 64: DriverBookModel.pending, 1 of length 24
-- tag 65: DriverBookModel.timer, 1 of length 24
-- tag 66: DriverBookModel.soft, 1 of length 24
-- tag 67: DriverBookModel.hit, 1 of length 24
-- tag 68: DriverBookModel.shadow, 1 of length 8
-- tag 69: DriverBookModel.eventField, 1 of length 17
-- tag 70: DriverBookModel.eventV, 1 of length 17
-- tag 71: DriverBookModel.eventTick, 1 of length 17
-- tag 72: DriverBookModel.sNow, 1 of length 8
-- tag 73: DriverBookModel.sValue, 1 of length 192
-- tag 74: DriverBookModel.sPending, 1 of length 192
-- tag 75: DriverBookModel.sTimer, 1 of length 192
-- tag 76: DriverBookModel.sSoft, 1 of length 192
-- tag 77: DriverBookModel.sHit, 1 of length 192
-- tag 78: DriverBookModel.sShadow, 1 of length 64
-- tag 79: DriverBookModel.sEvents, 1 of length 8
-- tag 80: DriverBookModel.sField, 1 of length 136
-- tag 81: DriverBookModel.sV, 1 of length 136
-- tag 82: DriverBookModel.sTick, 1 of length 136
-- tag 83: DriverBookModel.sBreaks, 1 of length 8
-- tag 84: DriverBookModel.sLaw, 1 of length 8
-- tag 85: DriverBookModel.sBreakNow, 1 of length 8
-- tag 86: DriverBookModel.sServed, 1 of length 8
-- tag 87: DriverBookModel.sResult, 1 of length 8
-- tag 88: DriverBookModel.sVersion, 1 of length 8
-- tag 89: DriverBookModel.sort, 1 of length 6
-- tag 90: DriverBookModel.size, 1 of length 6
-- tag 91: DriverBookModel.cells, 1 of length 384
-- tag 92: DriverBookModel.isHit, 1 of length 24
-- tag 93: DriverBookModel.ops, 1 of length 2
-- tag 94: DriverBookModel.op, 1 of length 600
-- tag 95: DriverBookModel.acc, 1 of length 2
-- tag 96: DriverBookModel.moved, 1 of length 64
def mCn (t : Nat) : Nat := match t with
  | 0 => 6
  | 1 => 1
  | 2 => 1
  | 3 => 6
  | 4 => 2
  | 5 => 1
  | 6 => 24
  | 7 => 12
  | 8 => 8
  | 9 => 6
  | 10 => 1
  | 11 => 1
  | 12 => 1
  | 20 => 6
  | 21 => 6
  | 22 => 6
  | 23 => 6
  | 24 => 1
  | 25 => 1
  | 26 => 1
  | 27 => 1
  | 28 => 8
  | 29 => 1
  | 30 => 1
  | 31 => 1
  | 32 => 6
  | 33 => 8
  | 34 => 8
  | 35 => 8
  | 36 => 8
  | 37 => 8
  | 38 => 8
  | 39 => 8
  | 40 => 8
  | 41 => 8
  | 42 => 6
  | 43 => 1
  | 44 => 1
  | 45 => 1
  | 46 => 1
  | 47 => 1
  | 48 => 1
  | 49 => 1
  | 50 => 1
  | 51 => 1
  | 52 => 1
  | 53 => 1
  | 54 => 1
  | 55 => 1
  | 56 => 1
  | 57 => 1
  | 58 => 1
  | 59 => 1
  | 60 => 1
  | 61 => 1
  | 62 => 1
  | 63 => 1
  | 64 => 1
  | 65 => 1
  | 66 => 1
  | 67 => 1
  | 68 => 1
  | 69 => 1
  | 70 => 1
  | 71 => 1
  | 72 => 1
  | 73 => 1
  | 74 => 1
  | 75 => 1
  | 76 => 1
  | 77 => 1
  | 78 => 1
  | 79 => 1
  | 80 => 1
  | 81 => 1
  | 82 => 1
  | 83 => 1
  | 84 => 1
  | 85 => 1
  | 86 => 1
  | 87 => 1
  | 88 => 1
  | 89 => 1
  | 90 => 1
  | 91 => 1
  | 92 => 1
  | 93 => 1
  | 94 => 1
  | 95 => 1
  | 96 => 1
  | 98 => 1
  | _ => 0
def mSh (t : Nat) : Nat ⊕ (FieldType × Nat) := match t with
  | 0 => .inl 0
  | 1 => .inl 1
  | 2 => .inl 2
  | 3 => .inl 3
  | 4 => .inl 4
  | 5 => .inl 5
  | 6 => .inl 6
  | 7 => .inl 7
  | 8 => .inl 8
  | 9 => .inl 9
  | 10 => .inl 10
  | 11 => .inl 11
  | 12 => .inl 12
  | 20 => .inr (.int, 12)
  | 21 => .inr (.int, 12)
  | 22 => .inr (.int, 12)
  | 23 => .inr (.int, 12)
  | 24 => .inr ((.object "DriverBook$Field"), 24)
  | 25 => .inr ((.object "DriverBook$Law"), 12)
  | 26 => .inr ((.object "DriverBook$Act"), 6)
  | 27 => .inr ((.array .int), 8)
  | 28 => .inr (.int, 16)
  | 29 => .inr (.int, 8)
  | 30 => .inr (.int, 8)
  | 31 => .inr (.int, 24)
  | 32 => .inr (.int, 288)
  | 33 => .inr (.int, 24)
  | 34 => .inr (.int, 24)
  | 35 => .inr (.int, 24)
  | 36 => .inr (.int, 24)
  | 37 => .inr (.long, 24)
  | 38 => .inr (.int, 8)
  | 39 => .inr (.int, 16)
  | 40 => .inr (.int, 16)
  | 41 => .inr (.long, 16)
  | 42 => .inr (.long, 64)
  | 43 => .inr (.int, 24)
  | 44 => .inr (.int, 24)
  | 45 => .inr ((.object "DriverBook$Tape"), 6)
  | 46 => .inr (.int, 24)
  | 47 => .inr (.int, 24)
  | 48 => .inr (.int, 24)
  | 49 => .inr (.int, 24)
  | 50 => .inr (.int, 24)
  | 51 => .inr (.int, 24)
  | 52 => .inr (.int, 24)
  | 53 => .inr (.int, 24)
  | 54 => .inr (.int, 12)
  | 55 => .inr (.int, 12)
  | 56 => .inr (.int, 12)
  | 57 => .inr (.int, 12)
  | 58 => .inr (.int, 6)
  | 59 => .inr (.int, 72)
  | 60 => .inr (.int, 72)
  | 61 => .inr (.int, 72)
  | 62 => .inr (.int, 72)
  | 63 => .inr (.int, 24)
  | 64 => .inr (.int, 24)
  | 65 => .inr (.int, 24)
  | 66 => .inr (.int, 24)
  | 67 => .inr (.int, 24)
  | 68 => .inr (.int, 8)
  | 69 => .inr (.int, 17)
  | 70 => .inr (.int, 17)
  | 71 => .inr (.int, 17)
  | 72 => .inr (.int, 8)
  | 73 => .inr (.int, 192)
  | 74 => .inr (.int, 192)
  | 75 => .inr (.int, 192)
  | 76 => .inr (.int, 192)
  | 77 => .inr (.int, 192)
  | 78 => .inr (.int, 64)
  | 79 => .inr (.int, 8)
  | 80 => .inr (.int, 136)
  | 81 => .inr (.int, 136)
  | 82 => .inr (.int, 136)
  | 83 => .inr (.int, 8)
  | 84 => .inr (.int, 8)
  | 85 => .inr (.int, 8)
  | 86 => .inr (.int, 8)
  | 87 => .inr (.int, 8)
  | 88 => .inr (.int, 8)
  | 89 => .inr (.int, 6)
  | 90 => .inr (.int, 6)
  | 91 => .inr (.long, 384)
  | 92 => .inr (.boolean, 24)
  | 93 => .inr (.int, 2)
  | 94 => .inr (.int, 600)
  | 95 => .inr (.int, 2)
  | 96 => .inr (.long, 64)
  | 98 => .inr (.long, 1)
  | _ => .inl 1000
def mNs (c : Nat) : Nat := match c with
  | 0 => 6
  | 1 => 10
  | 2 => 7
  | 3 => 6
  | 4 => 4
  | 5 => 6
  | 6 => 10
  | 7 => 4
  | 8 => 16
  | 9 => 5
  | 10 => 8
  | 11 => 7
  | 12 => 69
  | _ => 0
def mTy (c k : Nat) : FieldType := match c with
  | 0 => tyX0 k
  | 1 => tyX1 k
  | 2 => tyX2 k
  | 3 => tyX3 k
  | 4 => tyX4 k
  | 5 => tyX5 k
  | 6 => tyX6 k
  | 7 => tyX7 k
  | 8 => tyX8 k
  | 9 => tyX9 k
  | 10 => tyX10 k
  | 11 => tyX11 k
  | 12 => tyX12 k
  | _ => .int
def mRf0 (i k : Nat) : Option (Nat × Nat) := match k with
  | 0 => some (20, i)
  | 1 => some (21, i)
  | 2 => some (22, i)
  | 3 => some (23, i)
  | 4 => some (3, i)
  | _ => none
def mRf1 (i k : Nat) : Option (Nat × Nat) := match k with
  | 0 => some (24, i)
  | 1 => some (25, i)
  | 2 => some (26, i)
  | _ => none
def mRf2 (i k : Nat) : Option (Nat × Nat) := match k with
  | 0 => some (1, 0)
  | 1 => some (8, 0)
  | 2 => some (27, i)
  | 3 => some (29, i)
  | 4 => some (30, i)
  | 5 => some (31, i)
  | _ => none
def mRf3 (i k : Nat) : Option (Nat × Nat) := match k with
  | 0 => some (32, i)
  | _ => none
def mRf5 (i k : Nat) : Option (Nat × Nat) := match k with
  | 0 => some (1, 0)
  | 1 => some (8, 0)
  | 2 => some (2, 0)
  | 3 => some (4, 0)
  | 4 => some (4, 1)
  | _ => none
def mRf8 (i k : Nat) : Option (Nat × Nat) := match k with
  | 0 => some (33, i)
  | 1 => some (34, i)
  | 2 => some (35, i)
  | 3 => some (36, i)
  | 4 => some (37, i)
  | 5 => some (38, i)
  | 6 => some (39, i)
  | 7 => some (40, i)
  | 8 => some (41, i)
  | _ => none
def mRf9 (i k : Nat) : Option (Nat × Nat) := match k with
  | 2 => some (42, i)
  | 3 => some (8, i + 2)
  | _ => none
def mRf10 (i k : Nat) : Option (Nat × Nat) := match k with
  | 0 => some (1, 0)
  | 1 => some (8, 0)
  | 2 => some (5, 0)
  | 3 => some (8, 1)
  | 4 => some (43, i)
  | 5 => some (44, i)
  | _ => none
def mRf11 (i k : Nat) : Option (Nat × Nat) := match k with
  | 0 => some (1, 0)
  | 1 => some (8, 0)
  | 2 => some (2, 0)
  | 3 => some (5, 0)
  | 4 => some (10, 0)
  | 5 => some (45, i)
  | _ => none
def mRf12 (i k : Nat) : Option (Nat × Nat) := match k with
  | 3 => some (46, i)
  | 4 => some (47, i)
  | 5 => some (48, i)
  | 6 => some (49, i)
  | 7 => some (50, i)
  | 8 => some (51, i)
  | 9 => some (52, i)
  | 10 => some (53, i)
  | 12 => some (54, i)
  | 13 => some (55, i)
  | 14 => some (56, i)
  | 15 => some (57, i)
  | 17 => some (58, i)
  | 18 => some (59, i)
  | 19 => some (60, i)
  | 20 => some (61, i)
  | 21 => some (62, i)
  | 24 => some (63, i)
  | 25 => some (64, i)
  | 26 => some (65, i)
  | 27 => some (66, i)
  | 28 => some (67, i)
  | 29 => some (68, i)
  | 31 => some (69, i)
  | 32 => some (70, i)
  | 33 => some (71, i)
  | 39 => some (72, i)
  | 40 => some (73, i)
  | 41 => some (74, i)
  | 42 => some (75, i)
  | 43 => some (76, i)
  | 44 => some (77, i)
  | 45 => some (78, i)
  | 46 => some (79, i)
  | 47 => some (80, i)
  | 48 => some (81, i)
  | 49 => some (82, i)
  | 50 => some (83, i)
  | 51 => some (84, i)
  | 52 => some (85, i)
  | 53 => some (86, i)
  | 54 => some (87, i)
  | 56 => some (88, i)
  | 59 => some (89, i)
  | 60 => some (90, i)
  | 61 => some (91, i)
  | 63 => some (92, i)
  | 64 => some (93, i)
  | 65 => some (94, i)
  | 66 => some (95, i)
  | 68 => some (96, i)
  | _ => none
def mRf24 (_ k : Nat) : Option (Nat × Nat) := some (6, k)
def mRf25 (_ k : Nat) : Option (Nat × Nat) := some (7, k)
def mRf26 (_ k : Nat) : Option (Nat × Nat) := some (0, k)
def mRf27 (_ k : Nat) : Option (Nat × Nat) := some (28, k)
def mRf45 (_ k : Nat) : Option (Nat × Nat) := some (9, k)
def mRf (t i k : Nat) : Option (Nat × Nat) := match t with
  | 0 => mRf0 i k
  | 1 => mRf1 i k
  | 2 => mRf2 i k
  | 3 => mRf3 i k
  | 5 => mRf5 i k
  | 8 => mRf8 i k
  | 9 => mRf9 i k
  | 10 => mRf10 i k
  | 11 => mRf11 i k
  | 12 => mRf12 i k
  | 24 => mRf24 i k
  | 25 => mRf25 i k
  | 26 => mRf26 i k
  | 27 => mRf27 i k
  | 45 => mRf45 i k
  | _ => none
abbrev mCl : List vw_C := vwCl
def mTyL : List FieldType := [.int, .long, .boolean, (.array .int), (.object "DriverBook$Act"), (.object "DriverBook$Field"), (.object "DriverBook$Law"), (.object "DriverBook$Tape")]
def mTb : List Cond := lw_tbl.filter goodWord
def mNw : List Cond := [.methodLinkNest "DriverBook$Book" 52 ⟨"DriverBook$Field", "<init>", "()V"⟩ "DriverBook", .methodLinkNest "DriverBook$Book" 53 ⟨"DriverBook$Law", "<init>", "()V"⟩ "DriverBook", .methodLinkNest "DriverBook$Book" 54 ⟨"DriverBook$Act", "<init>", "()V"⟩ "DriverBook", .methodLinkNest "DriverBook$Act" 26 ⟨"DriverBook$Code", "<init>", "()V"⟩ "DriverBook", .methodLinkNest "DriverBook$Driver" 13 ⟨"DriverBook$Course", "<init>", "()V"⟩ "DriverBook", .methodLinkNest "DriverBook" 56 ⟨"DriverBook$Tape", "<init>", "()V"⟩ "DriverBook", .methodLinkNest "DriverBook$Code" 72 ⟨"DriverBook", "isIn", "(II)Z"⟩ "DriverBook", .methodLinkNest "DriverBook$Law" 16 ⟨"DriverBook", "isIn", "(II)Z"⟩ "DriverBook", .methodLinkNest "DriverBook$Chip" 138 ⟨"DriverBook", "isIn", "(II)Z"⟩ "DriverBook", .methodLinkNest "DriverBook$Walker" 60 ⟨"DriverBook", "nearestInt", "(J)I"⟩ "DriverBook"]
