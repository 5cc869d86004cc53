def fn_X9_pad (v0 : Int64) (v2 : Int64) (v4 : Int64) : Int64 :=
  ((((((v0 + (7046029254386353131 * v2)) + (2862933555777941757 * v4)) ^^^ (ju_lushr ((v0 + (7046029254386353131 * v2)) + (2862933555777941757 * v4)) 29)) * 4768777513237032717) ^^^ (ju_lushr ((((v0 + (7046029254386353131 * v2)) + (2862933555777941757 * v4)) ^^^ (ju_lushr ((v0 + (7046029254386353131 * v2)) + (2862933555777941757 * v4)) 29)) * 4768777513237032717) 32)))
def fn_X9_byteAt (z_disk : Nat → Int32) (v1 : Int32) (v2 : Int32) : Int32 :=
  (((z_disk (((64 * v1) + v2) : Int32).toNatClampNeg) &&& 255))
def fn_X9_writingOf_L4 : Nat → (Nat → Int32) → Int32 → Int32 → Int32 → Int32
  | 0, _, _, _, _ => (0)
  | n + 1, z_disk, v1, v2, v3 => (if 4 < v3 then (v2) else (bnd1 (fn_X9_byteAt z_disk v1 v3) (fun r16 => fn_X9_writingOf_L4 n z_disk v1 ((v2 <<< (8 &&& 31)) ||| r16) (v3 + 1))))
def fn_X9_writingOf (z_disk : Nat → Int32) (v1 : Int32) : Int32 :=
  fn_X9_writingOf_L4 6 z_disk v1 0 1
def fn_X9_tagOf_L5 : Nat → (Nat → Int32) → Int32 → Int64 → Int32 → Int64
  | 0, _, _, _, _ => (0)
  | n + 1, z_disk, v1, v2, v4 => (if 12 < v4 then (v2) else (bnd1 (fn_X9_byteAt z_disk v1 v4) (fun r20 => fn_X9_tagOf_L5 n z_disk v1 ((ju_lshl v2 8) ||| (r20 : Int32).toInt64) (v4 + 1))))
def fn_X9_tagOf (z_disk : Nat → Int32) (v1 : Int32) : Int64 :=
  fn_X9_tagOf_L5 14 z_disk v1 0 5
def fn_X9_fits (z_disk : Nat → Int32) (v1 : Int64) (v3 : Int32) : Int32 :=
  (bnd1 (fn_X9_byteAt z_disk v3 0) (fun r3 => (if r3 = 1 then (bnd1 (fn_X9_tagOf z_disk v3) (fun r22 => (bnd1 (fn_X9_writingOf z_disk v3) (fun r28 => (bnd1 (fn_X9_pad v1 ((r28 : Int32).toInt64) 100) (fun r35 => (if (lg_cmp r22 r35) = 0 then (1) else (0)))))))) else (bnd1 (fn_X9_byteAt z_disk v3 0) (fun r13 => (if r13 = 2 then (bnd1 (fn_X9_tagOf z_disk v3) (fun r22 => (bnd1 (fn_X9_writingOf z_disk v3) (fun r28 => (bnd1 (fn_X9_pad v1 ((r28 : Int32).toInt64) 100) (fun r35 => (if (lg_cmp r22 r35) = 0 then (1) else (0)))))))) else (0)))))))
def fn_X9_open_L11 : Nat → (Nat → Int32) → (Nat → Int32) → Int64 → Int32 → Int64 → Int32 → (Nat → Int32)
  | 0, _, _, _, _, _, _ => ((fun _ => 0))
  | n + 1, z_disk, z_plain, v1, v3, v4, v6 => (if 51 ≤ v6 then (z_plain) else (bnd1 (fn_X9_byteAt z_disk v3 (13 + v6)) (fun r31 => (bnd1 (fn_X9_pad v1 v4 (((v6 / 8) : Int32).toInt64)) (fun r43 => fn_X9_open_L11 n z_disk (upd z_plain (v6 : Int32).toNatClampNeg (vp_nar .byte (((r31 ^^^ ((ju_lushr r43 (56 - (8 * (v6 - v6 / 8 * 8)))) : Int64).toInt32) : Int32).toInt8.toInt32))) v1 v3 v4 (v6 + 1))))))
def fn_X9_open (z_disk : Nat → Int32) (z_plain : Nat → Int32) (v1 : Int64) (v3 : Int32) : (Nat → Int32) :=
  (bnd1 (fn_X9_writingOf z_disk v3) (fun r2 => fn_X9_open_L11 52 z_disk z_plain v1 v3 ((r2 : Int32).toInt64) 0))
def fn_X9_openNode_L26 : Nat → ((Nat → Int32) → (Nat → Int64) → (Nat → Int32) → (Nat → Int32) → Int32 → Int32 → ((Nat → Int64) × (Nat → Int32) × (Nat → Int32))) → (Nat → Int32) → (Nat → Int64) → (Nat → Int32) → (Nat → Int32) → Int32 → Int32 → Int64 → Int32 → ((Nat → Int64) × (Nat → Int32) × (Nat → Int32))
  | 0, _, _, _, _, _, _, _, _, _ => ((fun _ => 0), (fun _ => 0), (fun _ => 0))
  | n + 1, k14, z_disk, z_entryKey, z_entryPage, z_plain, v3, v4, v5, v7 => (if 8 ≤ v7 then (if v3 = (-1) then k14 z_disk (vp_updL z_entryKey (v4 : Int32).toNatClampNeg v5) (upd z_entryPage (v4 : Int32).toNatClampNeg 0) z_plain v3 (v4 + 1) else k14 z_disk (vp_updL z_entryKey (v4 : Int32).toNatClampNeg v5) (upd z_entryPage (v4 : Int32).toNatClampNeg ((((z_plain (((10 * v4) + 8) : Int32).toNatClampNeg) &&& 255) <<< (8 &&& 31)) ||| ((z_plain (((10 * v4) + 9) : Int32).toNatClampNeg) &&& 255))) z_plain v3 (v4 + 1)) else (if v3 = (-1) then k14 z_disk (vp_updL z_entryKey (v4 : Int32).toNatClampNeg v5) (upd z_entryPage (v4 : Int32).toNatClampNeg 0) z_plain v3 (v4 + 1) else fn_X9_openNode_L26 n k14 z_disk z_entryKey z_entryPage z_plain v3 v4 ((ju_lshl v5 8) ||| (((z_plain (((10 * v4) + v7) : Int32).toNatClampNeg) &&& 255) : Int32).toInt64) (v7 + 1)))
def fn_X9_openNode_L14 : Nat → (Nat → Int32) → (Nat → Int64) → (Nat → Int32) → (Nat → Int32) → Int32 → Int32 → ((Nat → Int64) × (Nat → Int32) × (Nat → Int32))
  | 0, _, _, _, _, _, _ => ((fun _ => 0), (fun _ => 0), (fun _ => 0))
  | n + 1, z_disk, z_entryKey, z_entryPage, z_plain, v3, v4 => (if 4 ≤ v4 then (z_entryKey, z_entryPage, z_plain) else fn_X9_openNode_L26 9 (fn_X9_openNode_L14 n) z_disk z_entryKey z_entryPage z_plain v3 v4 0 0)
def fn_X9_openNode (z_disk : Nat → Int32) (z_entryKey : Nat → Int64) (z_entryPage : Nat → Int32) (z_plain : Nat → Int32) (v1 : Int64) (v3 : Int32) : (Nat → Int64) × (Nat → Int32) × (Nat → Int32) :=
  (if v3 = (-1) then fn_X9_openNode_L14 5 z_disk z_entryKey z_entryPage z_plain v3 0 else (bnd1 (fn_X9_open z_disk z_plain v1 v3) (fun y8_0 => fn_X9_openNode_L14 5 z_disk z_entryKey z_entryPage y8_0 v3 0)))
def fn_X9_putEntries_L41 : Nat → ((Nat → Int64) → (Nat → Int32) → (Nat → Int32) → Int32 → (Nat → Int32)) → (Nat → Int64) → (Nat → Int32) → (Nat → Int32) → Int32 → Int32 → (Nat → Int32)
  | 0, _, _, _, _, _, _ => ((fun _ => 0))
  | n + 1, k23, z_entryKey, z_entryPage, z_plain, v1, v2 => (if 8 ≤ v2 then k23 z_entryKey z_entryPage (upd (upd z_plain (((10 * v1) + 8) : Int32).toNatClampNeg (vp_nar .byte ((((z_entryPage (v1 : Int32).toNatClampNeg) >>> (8 &&& 31)) : Int32).toInt8.toInt32))) (((10 * v1) + 9) : Int32).toNatClampNeg (vp_nar .byte (((z_entryPage (v1 : Int32).toNatClampNeg) : Int32).toInt8.toInt32))) (v1 + 1) else fn_X9_putEntries_L41 n k23 z_entryKey z_entryPage (upd z_plain (((10 * v1) + v2) : Int32).toNatClampNeg (vp_nar .byte ((((ju_lushr (z_entryKey (v1 : Int32).toNatClampNeg) (56 - (8 * v2))) : Int64).toInt32 : Int32).toInt8.toInt32))) v1 (v2 + 1))
def fn_X9_putEntries_L23 : Nat → (Nat → Int64) → (Nat → Int32) → (Nat → Int32) → Int32 → (Nat → Int32)
  | 0, _, _, _, _ => ((fun _ => 0))
  | n + 1, z_entryKey, z_entryPage, z_plain, v1 => (if 4 ≤ v1 then (z_plain) else (if (lg_cmp (z_entryKey (v1 : Int32).toNatClampNeg) 0) = 0 then fn_X9_putEntries_L23 n z_entryKey z_entryPage z_plain (v1 + 1) else fn_X9_putEntries_L41 9 (fn_X9_putEntries_L23 n) z_entryKey z_entryPage z_plain v1 0))
def fn_X9_putEntries_L2 : Nat → (Nat → Int64) → (Nat → Int32) → (Nat → Int32) → Int32 → (Nat → Int32)
  | 0, _, _, _, _ => ((fun _ => 0))
  | n + 1, z_entryKey, z_entryPage, z_plain, v1 => (if 51 ≤ v1 then fn_X9_putEntries_L23 5 z_entryKey z_entryPage z_plain 0 else fn_X9_putEntries_L2 n z_entryKey z_entryPage (upd z_plain (v1 : Int32).toNatClampNeg (vp_nar .byte 0)) (v1 + 1))
def fn_X9_putEntries (z_entryKey : Nat → Int64) (z_entryPage : Nat → Int32) (z_plain : Nat → Int32) : (Nat → Int32) :=
  fn_X9_putEntries_L2 52 z_entryKey z_entryPage z_plain 0
def fn_X9_entryOf (v0 : Int32) (v1 : Int32) : Int32 :=
  (if v1 = 0 then ((v0 / 16)) else (if v1 = 1 then (((v0 / 4) - (v0 / 4) / 4 * 4)) else ((v0 - v0 / 4 * 4))))
def fn_X9_nextOf (z_plain : Nat → Int32) : Int32 :=
  (if ((((z_plain (0 : Int32).toNatClampNeg) &&& 255) <<< (8 &&& 31)) ||| ((z_plain (1 : Int32).toNatClampNeg) &&& 255)) = 65535 then ((-1)) else (((((z_plain (0 : Int32).toNatClampNeg) &&& 255) <<< (8 &&& 31)) ||| ((z_plain (1 : Int32).toNatClampNeg) &&& 255))))
def fn_X9_mark (z_isUsed : Nat → Int32) (v1 : Int32) : (Nat → Int32) :=
  (if v1 < 0 then (z_isUsed) else (if 200 ≤ v1 then (z_isUsed) else ((upd z_isUsed (v1 : Int32).toNatClampNeg (vp_nar .boolean 1)))))
def fn_X9_used_L4 : Nat → (Nat → Int32) → Int32 → Int32 → Int32
  | 0, _, _, _ => (0)
  | n + 1, z_isUsed, v1, v2 => (if 200 ≤ v2 then (v1) else (if (z_isUsed (v2 : Int32).toNatClampNeg) = 0 then fn_X9_used_L4 n z_isUsed (v1 + 0) (v2 + 1) else fn_X9_used_L4 n z_isUsed (v1 + 1) (v2 + 1)))
def fn_X9_used (z_isUsed : Nat → Int32) : Int32 :=
  fn_X9_used_L4 201 z_isUsed 0 0
def fn_X9_goOff (z_isOn : Int32) (z_armed : Int32) (z_rowSize : Int32) (z_tapeSize : Int32) : Int32 × Int32 × Int32 × Int32 :=
  (0, (-1), 0, 0)
def fn_X9_step (z_isOn : Int32) (z_armed : Int32) (z_rowSize : Int32) (z_tapeSize : Int32) (z_steps : Int32) : Int32 × Int32 × Int32 × Int32 × Int32 × Int32 :=
  (if z_isOn = 0 then (0, z_isOn, z_armed, z_rowSize, z_tapeSize, z_steps) else (if z_armed = 0 then (bnd4 (fn_X9_goOff z_isOn z_armed z_rowSize z_tapeSize) (fun y17_0 y17_1 y17_2 y17_3 => (0, y17_0, y17_1, y17_2, y17_3, z_steps))) else (if z_armed ≤ 0 then (1, z_isOn, (z_armed - 0), z_rowSize, z_tapeSize, (z_steps + 1)) else (1, z_isOn, (z_armed - 1), z_rowSize, z_tapeSize, (z_steps + 1)))))
def fn_X9_takeKey_L19 : Nat → Int32 → (Nat → Int64) → Int64 → Int32 → (Int64 × Int32 × (Nat → Int64))
  | 0, _, _, _, _ => (0, 0, (fun _ => 0))
  | n + 1, z_rowSize, z_row, v1, v3 => (if z_rowSize ≤ v3 then (v1, z_rowSize, z_row) else fn_X9_takeKey_L19 n z_rowSize (vp_updL z_row (v3 : Int32).toNatClampNeg (z_row ((v3 + 1) : Int32).toNatClampNeg)) v1 (v3 + 1))
def fn_X9_takeKey (z_rowSize : Int32) (z_row : Nat → Int64) : Int64 × Int32 × (Nat → Int64) :=
  fn_X9_takeKey_L19 40 (z_rowSize - 1) z_row (z_row (0 : Int32).toNatClampNeg) 0
def fn_X9_write_L287 : Nat → (Int32 → Int32 → Int32 → Int32 → Int32 → Int32 → Int32 → (Nat → Int32) → (Nat → Int32) → (Nat → Int32) → (Nat → Int32) → Int32 → Int32 → (Int32 × Int32 × Int32 × Int32 × Int32 × Int32 × Int32 × Int32 × (Nat → Int32) × (Nat → Int32) × (Nat → Int32))) → Int32 → Int32 → Int32 → Int32 → Int32 → Int32 → Int32 → (Nat → Int32) → (Nat → Int32) → (Nat → Int32) → (Nat → Int32) → Int32 → Int32 → Int32 → (Int32 × Int32 × Int32 × Int32 × Int32 × Int32 × Int32 × Int32 × (Nat → Int32) × (Nat → Int32) × (Nat → Int32))
  | 0, _, _, _, _, _, _, _, _, _, _, _, _, _, _, _ => (0, 0, 0, 0, 0, 0, 0, 0, (fun _ => 0), (fun _ => 0), (fun _ => 0))
  | n + 1, k266, z_isOn, z_armed, z_rowSize, z_tapeSize, z_lastPage, z_wholePages, z_steps, z_disk, z_isUsed, z_plain, z_written, v4, v8, v9 => (if ((16 * v8) + 16) ≤ v9 then k266 z_isOn z_armed z_rowSize z_tapeSize z_lastPage z_wholePages z_steps z_disk z_isUsed z_plain z_written v4 (v8 + (-1)) else fn_X9_write_L287 n k266 z_isOn z_armed z_rowSize z_tapeSize z_lastPage z_wholePages z_steps (upd z_disk (((64 * v4) + v9) : Int32).toNatClampNeg (vp_nar .byte (z_written (v9 : Int32).toNatClampNeg))) z_isUsed z_plain z_written v4 v8 (v9 + 1))
def fn_X9_write_L266 : Nat → Int32 → Int32 → Int32 → Int32 → Int32 → Int32 → Int32 → (Nat → Int32) → (Nat → Int32) → (Nat → Int32) → (Nat → Int32) → Int32 → Int32 → (Int32 × Int32 × Int32 × Int32 × Int32 × Int32 × Int32 × Int32 × (Nat → Int32) × (Nat → Int32) × (Nat → Int32))
  | 0, _, _, _, _, _, _, _, _, _, _, _, _, _ => (0, 0, 0, 0, 0, 0, 0, 0, (fun _ => 0), (fun _ => 0), (fun _ => 0))
  | n + 1, z_isOn, z_armed, z_rowSize, z_tapeSize, z_lastPage, z_wholePages, z_steps, z_disk, z_isUsed, z_plain, z_written, v4, v8 => (if v8 < 0 then (v4, z_isOn, z_armed, z_rowSize, z_tapeSize, z_lastPage, (z_wholePages + 1), z_steps, z_disk, z_isUsed, z_written) else (bnd6 (fn_X9_step z_isOn z_armed z_rowSize z_tapeSize z_steps) (fun r272 y272_0 y272_1 y272_2 y272_3 y272_4 => (if r272 = 0 then ((-1), y272_0, y272_1, y272_2, y272_3, z_lastPage, z_wholePages, y272_4, z_disk, z_isUsed, z_written) else fn_X9_write_L287 18 (fn_X9_write_L266 n) y272_0 y272_1 y272_2 y272_3 z_lastPage z_wholePages y272_4 z_disk z_isUsed z_plain z_written v4 v8 (16 * v8)))))
def fn_X9_write_L191 : Nat → Int32 → Int32 → Int32 → Int32 → Int32 → Int32 → Int32 → (Nat → Int32) → (Nat → Int32) → (Nat → Int32) → (Nat → Int32) → Int64 → Int32 → Int32 → Int32 → (Int32 × Int32 × Int32 × Int32 × Int32 × Int32 × Int32 × Int32 × (Nat → Int32) × (Nat → Int32) × (Nat → Int32))
  | 0, _, _, _, _, _, _, _, _, _, _, _, _, _, _, _ => (0, 0, 0, 0, 0, 0, 0, 0, (fun _ => 0), (fun _ => 0), (fun _ => 0))
  | n + 1, z_isOn, z_armed, z_rowSize, z_tapeSize, z_lastPage, z_wholePages, z_steps, z_disk, z_isUsed, z_plain, z_written, v2, v4, v5, v8 => (if 51 ≤ v8 then fn_X9_write_L266 6 z_isOn z_armed z_rowSize z_tapeSize v4 z_wholePages z_steps z_disk (upd z_isUsed (v4 : Int32).toNatClampNeg (vp_nar .boolean 1)) z_plain z_written v4 3 else (bnd1 (fn_X9_pad v2 ((v5 : Int32).toInt64) (((v8 / 8) : Int32).toInt64)) (fun r224 => fn_X9_write_L191 n z_isOn z_armed z_rowSize z_tapeSize z_lastPage z_wholePages z_steps z_disk z_isUsed z_plain (upd z_written ((13 + v8) : Int32).toNatClampNeg (vp_nar .byte ((((z_plain (v8 : Int32).toNatClampNeg) ^^^ ((ju_lushr r224 (56 - (8 * (v8 - v8 / 8 * 8)))) : Int64).toInt32) : Int32).toInt8.toInt32))) v2 v4 v5 (v8 + 1))))
def fn_X9_write_L153 : Nat → Int32 → Int32 → Int32 → Int32 → Int32 → Int32 → Int32 → (Nat → Int32) → (Nat → Int32) → (Nat → Int32) → (Nat → Int32) → Int64 → Int32 → Int32 → Int64 → Int32 → (Int32 × Int32 × Int32 × Int32 × Int32 × Int32 × Int32 × Int32 × (Nat → Int32) × (Nat → Int32) × (Nat → Int32))
  | 0, _, _, _, _, _, _, _, _, _, _, _, _, _, _, _, _ => (0, 0, 0, 0, 0, 0, 0, 0, (fun _ => 0), (fun _ => 0), (fun _ => 0))
  | n + 1, z_isOn, z_armed, z_rowSize, z_tapeSize, z_lastPage, z_wholePages, z_steps, z_disk, z_isUsed, z_plain, z_written, v2, v4, v5, v6, v8 => (if 8 ≤ v8 then fn_X9_write_L191 52 z_isOn z_armed z_rowSize z_tapeSize z_lastPage z_wholePages z_steps z_disk z_isUsed z_plain z_written v2 v4 v5 0 else fn_X9_write_L153 n z_isOn z_armed z_rowSize z_tapeSize z_lastPage z_wholePages z_steps z_disk z_isUsed z_plain (upd z_written ((5 + v8) : Int32).toNatClampNeg (vp_nar .byte ((((ju_lushr v6 (56 - (8 * v8))) : Int64).toInt32 : Int32).toInt8.toInt32))) v2 v4 v5 v6 (v8 + 1))
def fn_X9_write_L117 : Nat → Int32 → Int32 → Int32 → Int32 → Int32 → Int32 → Int32 → (Nat → Int32) → (Nat → Int32) → (Nat → Int32) → (Nat → Int32) → Int64 → Int32 → Int32 → Int64 → Int32 → (Int32 × Int32 × Int32 × Int32 × Int32 × Int32 × Int32 × Int32 × (Nat → Int32) × (Nat → Int32) × (Nat → Int32))
  | 0, _, _, _, _, _, _, _, _, _, _, _, _, _, _, _, _ => (0, 0, 0, 0, 0, 0, 0, 0, (fun _ => 0), (fun _ => 0), (fun _ => 0))
  | n + 1, z_isOn, z_armed, z_rowSize, z_tapeSize, z_lastPage, z_wholePages, z_steps, z_disk, z_isUsed, z_plain, z_written, v2, v4, v5, v6, v8 => (if 4 ≤ v8 then fn_X9_write_L153 9 z_isOn z_armed z_rowSize z_tapeSize z_lastPage z_wholePages z_steps z_disk z_isUsed z_plain z_written v2 v4 v5 v6 0 else fn_X9_write_L117 n z_isOn z_armed z_rowSize z_tapeSize z_lastPage z_wholePages z_steps z_disk z_isUsed z_plain (upd z_written ((1 + v8) : Int32).toNatClampNeg (vp_nar .byte (((v5 >>> ((24 - (8 * v8)) &&& 31)) : Int32).toInt8.toInt32))) v2 v4 v5 v6 (v8 + 1))
def fn_X9_write_L53 : Nat → Int32 → Int32 → Int32 → Int32 → Int32 → Int32 → Int32 → (Nat → Int32) → (Nat → Int32) → (Nat → Int32) → (Nat → Int32) → Int32 → Int64 → Int32 → Int32 → Int32 → (Int32 × Int32 × Int32 × Int32 × Int32 × Int32 × Int32 × Int32 × (Nat → Int32) × (Nat → Int32) × (Nat → Int32))
  | 0, _, _, _, _, _, _, _, _, _, _, _, _, _, _, _, _ => (0, 0, 0, 0, 0, 0, 0, 0, (fun _ => 0), (fun _ => 0), (fun _ => 0))
  | n + 1, z_isOn, z_armed, z_rowSize, z_tapeSize, z_lastPage, z_wholePages, z_steps, z_disk, z_isUsed, z_plain, z_written, v1, v2, v4, v5, v6 => (if 200 ≤ v6 then (bnd1 (fn_X9_pad v2 (((v5 + 1) : Int32).toInt64) 100) (fun r109 => fn_X9_write_L117 5 z_isOn z_armed z_rowSize z_tapeSize z_lastPage z_wholePages z_steps z_disk z_isUsed z_plain (upd z_written (0 : Int32).toNatClampNeg (vp_nar .byte ((v1 : Int32).toInt8.toInt32))) v2 v4 (v5 + 1) r109 0)) else (bnd1 (fn_X9_writingOf z_disk v6) (fun r64 => (if r64 ≤ v5 then fn_X9_write_L53 n z_isOn z_armed z_rowSize z_tapeSize z_lastPage z_wholePages z_steps z_disk z_isUsed z_plain z_written v1 v2 v4 v5 (v6 + 1) else (bnd1 (fn_X9_writingOf z_disk v6) (fun r75 => fn_X9_write_L53 n z_isOn z_armed z_rowSize z_tapeSize z_lastPage z_wholePages z_steps z_disk z_isUsed z_plain z_written v1 v2 v4 r75 (v6 + 1)))))))
def fn_X9_write_L24 : Nat → Int32 → Int32 → Int32 → Int32 → Int32 → Int32 → Int32 → (Nat → Int32) → (Nat → Int32) → (Nat → Int32) → (Nat → Int32) → Int32 → Int64 → Int32 → (Int32 × Int32 × Int32 × Int32 × Int32 × Int32 × Int32 × Int32 × (Nat → Int32) × (Nat → Int32) × (Nat → Int32))
  | 0, _, _, _, _, _, _, _, _, _, _, _, _, _, _ => (0, 0, 0, 0, 0, 0, 0, 0, (fun _ => 0), (fun _ => 0), (fun _ => 0))
  | n + 1, z_isOn, z_armed, z_rowSize, z_tapeSize, z_lastPage, z_wholePages, z_steps, z_disk, z_isUsed, z_plain, z_written, v1, v2, v4 => (if (z_isUsed (v4 : Int32).toNatClampNeg) = 0 then fn_X9_write_L53 201 z_isOn z_armed z_rowSize z_tapeSize z_lastPage z_wholePages z_steps z_disk z_isUsed z_plain z_written v1 v2 v4 0 0 else fn_X9_write_L24 n z_isOn z_armed z_rowSize z_tapeSize z_lastPage z_wholePages z_steps z_disk z_isUsed z_plain z_written v1 v2 ((v4 + 1) - (v4 + 1) / 200 * 200))
def fn_X9_write (z_isOn : Int32) (z_armed : Int32) (z_rowSize : Int32) (z_tapeSize : Int32) (z_lastPage : Int32) (z_wholePages : Int32) (z_steps : Int32) (z_disk : Nat → Int32) (z_isUsed : Nat → Int32) (z_plain : Nat → Int32) (z_written : Nat → Int32) (v1 : Int32) (v2 : Int64) : Int32 × Int32 × Int32 × Int32 × Int32 × Int32 × Int32 × Int32 × (Nat → Int32) × (Nat → Int32) × (Nat → Int32) :=
  (if z_lastPage = (-1) then fn_X9_write_L24 201 z_isOn z_armed z_rowSize z_tapeSize z_lastPage z_wholePages z_steps z_disk z_isUsed z_plain z_written v1 v2 0 else fn_X9_write_L24 201 z_isOn z_armed z_rowSize z_tapeSize z_lastPage z_wholePages z_steps z_disk z_isUsed z_plain z_written v1 v2 ((z_lastPage + 1) - (z_lastPage + 1) / 200 * 200))
def fn_X9_supply_L26 : Nat → Int32 → Int32 → Int32 → (Nat → Int64) → (Nat → Int64) → Int64 → Int32 → (Int32 × Int32 × Int32 × (Nat → Int64) × (Nat → Int64))
  | 0, _, _, _, _, _, _, _ => (0, 0, 0, (fun _ => 0), (fun _ => 0))
  | n + 1, z_isOn, z_rowSize, z_takenCount, z_row, z_taken, v1, v3 => (if z_takenCount ≤ v3 then (if 3000 ≤ z_takenCount then (1, (z_rowSize + 1), z_takenCount, (vp_updL z_row (z_rowSize : Int32).toNatClampNeg v1), z_taken) else (1, (z_rowSize + 1), (z_takenCount + 1), (vp_updL z_row (z_rowSize : Int32).toNatClampNeg v1), (vp_updL z_taken (z_takenCount : Int32).toNatClampNeg v1))) else (if (lg_cmp (z_taken (v3 : Int32).toNatClampNeg) v1) = 0 then (0, z_rowSize, z_takenCount, z_row, z_taken) else fn_X9_supply_L26 n z_isOn z_rowSize z_takenCount z_row z_taken v1 (v3 + 1)))
def fn_X9_supply (z_isOn : Int32) (z_rowSize : Int32) (z_takenCount : Int32) (z_row : Nat → Int64) (z_taken : Nat → Int64) (v1 : Int64) : Int32 × Int32 × Int32 × (Nat → Int64) × (Nat → Int64) :=
  (if z_isOn = 0 then (0, z_rowSize, z_takenCount, z_row, z_taken) else (if (lg_cmp v1 0) = 0 then (0, z_rowSize, z_takenCount, z_row, z_taken) else (if z_rowSize = 40 then (0, z_rowSize, z_takenCount, z_row, z_taken) else fn_X9_supply_L26 3001 z_isOn z_rowSize z_takenCount z_row z_taken v1 0)))
def fn_X9_feed_L24 : Nat → Int32 → Int32 → (Nat → Int32) → Int32 → Int32 → (Int32 × Int32 × (Nat → Int32))
  | 0, _, _, _, _, _ => (0, 0, (fun _ => 0))
  | n + 1, z_isOn, z_tapeSize, z_tape, v1, v2 => (if v2 < 0 then (z_tapeSize, z_tapeSize, z_tape) else fn_X9_feed_L24 n z_isOn (z_tapeSize + 1) (upd z_tape (z_tapeSize : Int32).toNatClampNeg (vp_nar .byte (((v1 >>> (v2 &&& 31)) : Int32).toInt8.toInt32))) v1 (v2 + (-8)))
def fn_X9_feed (z_isOn : Int32) (z_tapeSize : Int32) (z_tape : Nat → Int32) (v1 : Int32) : Int32 × Int32 × (Nat → Int32) :=
  (if z_isOn = 0 then ((-2), z_tapeSize, z_tape) else (if (z_tapeSize + 4) ≤ 96 then fn_X9_feed_L24 6 z_isOn z_tapeSize z_tape v1 24 else ((-2), z_tapeSize, z_tape)))
def fn_X9_isObject (v0 : Int32) : Int32 :=
  (if v0 < 0 then (0) else (if 64 ≤ v0 then (0) else (1)))
def fn_X9_cut (z_isOn : Int32) (z_armed : Int32) (z_rowSize : Int32) (z_tapeSize : Int32) : Int32 × Int32 × Int32 × Int32 × Int32 :=
  (if z_isOn = 0 then (0, z_isOn, z_armed, z_rowSize, z_tapeSize) else (bnd4 (fn_X9_goOff z_isOn z_armed z_rowSize z_tapeSize) (fun y10_0 y10_1 y10_2 y10_3 => (1, y10_0, y10_1, y10_2, y10_3))))
def fn_X9_arm (z_isOn : Int32) (z_armed : Int32) (v1 : Int32) : Int32 × Int32 :=
  (if z_isOn = 0 then (0, z_armed) else (if v1 < 0 then (0, z_armed) else (if v1 ≤ 200 then (1, v1) else (0, z_armed))))
def fn_X9_power (z_isOn : Int32) (z_lastPage : Int32) : Int32 × Int32 × Int32 :=
  (if z_isOn = 0 then (1, 1, (-1)) else (0, z_isOn, z_lastPage))
def fn_X9_disk (z_disk : Nat → Int32) (v1 : Int32) : Int32 :=
  (if v1 < 0 then ((-1)) else (if 12800 ≤ v1 then ((-1)) else (((z_disk (v1 : Int32).toNatClampNeg) &&& 255))))
def fn_X9_cell (z_cellKey : Int64) (z_cellPage : Int32) (v1 : Int32) : Int64 :=
  (if v1 = 0 then (z_cellKey) else (if v1 = 1 then ((z_cellPage : Int32).toInt64) else (0)))
def fn_X9_isKnown_L5 : Nat → Int32 → (Nat → Int64) → Int64 → Int32 → Int32 → Int32
  | 0, _, _, _, _, _ => (0)
  | n + 1, z_knownCount, z_knownKeys, v1, v3, v4 => (if z_knownCount ≤ v4 then (v3) else (if (lg_cmp (z_knownKeys (v4 : Int32).toNatClampNeg) v1) = 0 then fn_X9_isKnown_L5 n z_knownCount z_knownKeys v1 (v3 ||| 1) (v4 + 1) else fn_X9_isKnown_L5 n z_knownCount z_knownKeys v1 (v3 ||| 0) (v4 + 1)))
def fn_X9_isKnown (z_knownCount : Int32) (z_knownKeys : Nat → Int64) (v1 : Int64) : Int32 :=
  fn_X9_isKnown_L5 901 z_knownCount z_knownKeys v1 0 0
