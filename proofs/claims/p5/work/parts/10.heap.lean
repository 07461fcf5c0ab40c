-- scalars: 0 now.z, 1 kept.z, 2 bits0, 3 bits1, 4 bits2, 5 bits3, 6 row.first, 7 row.end, 8 row.tile, 9 row.joint, 10 row.pieces, 11 row.joints, 12 row.gap, 13 row.touches, 14 row.hides, 15 open, 16 digits, 17 wants, 18 kind, 19 number, 20 mark, 21 images
-- rows of numbers: 0 now.wall at 2, 1 now.kinds at 4, 2 now.marks at 6, 3 now.froms at 8, 4 now.widths at 10, 5 now.tape at 12, 6 now.broken at 14, 7 now.harm at 16, 8 now.waits at 18, 9 kept.wall at 21, 10 kept.kinds at 23, 11 kept.marks at 25, 12 kept.froms at 27, 13 kept.widths at 29, 14 kept.tape at 31, 15 kept.broken at 33, 16 kept.harm at 35, 17 kept.waits at 37, 18 errors at 39, 19 sheet0 at 43, 20 sheet1 at 46, 21 sheet2 at 49, 22 sheet3 at 52, 23 codes at 56, 24 pending at 58, 25 stack at 61, 26 trace at 64
def px_sh : Nat → Option Nat := fun j => match j with
  | 0 => some 42
  | 1 => some 45
  | 2 => some 48
  | 3 => some 51
  | _ => none
def px_CH (Z N : Nat → Int32) (F : Nat → Nat → Int32) : List va_E := [.inr (7, [.ref 1, .ref 20, .int (Z 21), .ref 39, .ref 41, .ref 54, .ref 55, .ref 60, .ref 63]),
  .inr (0, [.ref 2, .ref 4, .ref 6, .ref 8, .ref 10, .ref 12, .ref 14, .ref 16, .ref 18, .int (Z 0)]),
  .inr (1, [.ref 3, .int (N 0)]),
  .inl (0, 7, .inl (F 0)),
  .inr (1, [.ref 5, .int (N 1)]),
  .inl (0, 6, .inl (F 1)),
  .inr (1, [.ref 7, .int (N 2)]),
  .inl (0, 6, .inl (F 2)),
  .inr (1, [.ref 9, .int (N 3)]),
  .inl (0, 6, .inl (F 3)),
  .inr (1, [.ref 11, .int (N 4)]),
  .inl (0, 6, .inl (F 4)),
  .inr (1, [.ref 13, .int (N 5)]),
  .inl (0, 60, .inl (F 5)),
  .inr (1, [.ref 15, .int (N 6)]),
  .inl (0, 60, .inl (F 6)),
  .inr (1, [.ref 17, .int (N 7)]),
  .inl (0, 60, .inl (F 7)),
  .inr (1, [.ref 19, .int (N 8)]),
  .inl (0, 24, .inl (F 8)),
  .inr (0, [.ref 21, .ref 23, .ref 25, .ref 27, .ref 29, .ref 31, .ref 33, .ref 35, .ref 37, .int (Z 1)]),
  .inr (1, [.ref 22, .int (N 9)]),
  .inl (0, 7, .inl (F 9)),
  .inr (1, [.ref 24, .int (N 10)]),
  .inl (0, 6, .inl (F 10)),
  .inr (1, [.ref 26, .int (N 11)]),
  .inl (0, 6, .inl (F 11)),
  .inr (1, [.ref 28, .int (N 12)]),
  .inl (0, 6, .inl (F 12)),
  .inr (1, [.ref 30, .int (N 13)]),
  .inl (0, 6, .inl (F 13)),
  .inr (1, [.ref 32, .int (N 14)]),
  .inl (0, 60, .inl (F 14)),
  .inr (1, [.ref 34, .int (N 15)]),
  .inl (0, 60, .inl (F 15)),
  .inr (1, [.ref 36, .int (N 16)]),
  .inl (0, 60, .inl (F 16)),
  .inr (1, [.ref 38, .int (N 17)]),
  .inl (0, 24, .inl (F 17)),
  .inr (1, [.ref 40, .int (N 18)]),
  .inl (0, 7, .inl (F 18)),
  .inl (1, 4, .inr (.inr (.inr (.inr px_sh)))),
  .inr (5, [.ref 43, .int (Z 2)]),
  .inr (1, [.ref 44, .int (N 19)]),
  .inl (0, 24, .inl (F 19)),
  .inr (5, [.ref 46, .int (Z 3)]),
  .inr (1, [.ref 47, .int (N 20)]),
  .inl (0, 24, .inl (F 20)),
  .inr (5, [.ref 49, .int (Z 4)]),
  .inr (1, [.ref 50, .int (N 21)]),
  .inl (0, 24, .inl (F 21)),
  .inr (5, [.ref 52, .int (Z 5)]),
  .inr (1, [.ref 53, .int (N 22)]),
  .inl (0, 24, .inl (F 22)),
  .inr (4, [.int (Z 6), .int (Z 7), .int (Z 8), .int (Z 9), .int (Z 10), .int (Z 11), .int (Z 12), .int (Z 13), .int (Z 14)]),
  .inr (2, [.ref 56, .ref 58, .int (Z 15), .int (Z 16), .int (Z 17)]),
  .inr (1, [.ref 57, .int (N 23)]),
  .inl (0, 60, .inl (F 23)),
  .inr (1, [.ref 59, .int (N 24)]),
  .inl (0, 60, .inl (F 24)),
  .inr (3, [.ref 61]),
  .inr (1, [.ref 62, .int (N 25)]),
  .inl (0, 60, .inl (F 25)),
  .inr (6, [.ref 64, .int (Z 18), .int (Z 19), .int (Z 20)]),
  .inr (1, [.ref 65, .int (N 26)]),
  .inl (0, 30, .inl (F 26))]
-- the reference: scalars 0 images, 1 at, 2 open, 3 steps, 4 use, 5 pieces, 6 traced, 7 speaks, 8 isParted; rows 0 s, 1 kept, 2 errors, 3 lows, 4 highs, 5 step, 6 named, 7 pile, 8 left, 9 wide, 10 trace, 11 bits, 12 sizes, 13 number, 14 aside
def px_MH (Z : Nat → Int32) (F : Nat → Nat → Int32) : List va_E := [.inr (8, [.ref 1001, .ref 1002, .int (Z 0), .ref 1003, .ref 1004, .ref 1005, .int (Z 1), .int (Z 2), .int (Z 3), .int (Z 4), .ref 1006, .ref 1007, .ref 1008, .ref 1009, .ref 1010, .int (Z 5), .int (Z 6), .ref 1011, .int (Z 7), .int (Z 8), .ref 1012, .ref 1013, .ref 1014, .ref 1015]),
  .inl (0, 370, .inl (F 0)),
  .inl (0, 370, .inl (F 1)),
  .inl (0, 7, .inl (F 2)),
  .inl (0, 6, .inl (F 3)),
  .inl (0, 6, .inl (F 4)),
  .inl (0, 124, .inl (F 5)),
  .inl (0, 128, .inl (F 6)),
  .inl (0, 64, .inl (F 7)),
  .inl (0, 100, .inl (F 8)),
  .inl (0, 100, .inl (F 9)),
  .inl (0, 30, .inl (F 10)),
  .inl (0, 4, .inl (F 11)),
  .inl (0, 4, .inl (F 12)),
  .inl (0, 96, .inl (F 13)),
  .inl (0, 24, .inl (F 14))]
def px_Z0 : Nat → Int32 := fun k => match k with
  | 0 => 1
  | 1 => 1
  | _ => 0
def px_N0 : Nat → Int32 := fun k => match k with
  | 0 => 7
  | 9 => 7
  | 18 => 7
  | _ => 0
def px_w0l : List Int32 := [2000, 150, 2, 0, 1, 0, 150]
def px_w0 : Nat → Int32 := fun j => px_w0l.getD j 0
def px_F0 : Nat → Nat → Int32 := fun k => match k with
  | 0 => px_w0
  | 9 => px_w0
  | _ => fun _ => 0
def px_s0l : List Int32 := [2000, 150, 2, 0, 1, 0, 150, 1]
def px_s0 : Nat → Int32 := fun j => px_s0l.getD j 0
def px_G0 : Nat → Nat → Int32 := fun k => match k with
  | 0 => px_s0
  | 3 => px_K0
  | 4 => px_K1
  | _ => fun _ => 0
def px_C0 : List va_E := px_CH px_Z0 px_N0 px_F0
def px_M0 : List va_E := px_MH (fun _ => 0) px_G0
def px_ans (d n j : Nat) (as : List Value) (h : px_H) : Option Int32 := match px_run px_codes d n j as h with
  | some (some (.int x), _) => some x
  | _ => none
