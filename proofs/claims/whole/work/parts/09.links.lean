def z_nr (v : Value) : Bool := match v with
  | .ref _ => false
  | _ => true
theorem z_okd {l : List Value} (h : l.all z_nr = true) : ∀ v ∈ l, ∀ n, z_ok n v := by
  intro v hv n
  have h9 := List.all_eq_true.mp h v hv
  cases v <;> first | trivial | cases h9
section ZL
variable {w : z_W}
theorem zw_36 (hw : z_Wd w) : z_has w (Jvm.Cond.fieldLink "ThingStream$Shapes" (9 : Nat) "ThingStream$Shapes" "there" "[Z") := hw.2.1 _ (z_mem 36 (by decide +kernel)) rfl
theorem zw_37 (hw : z_Wd w) : z_has w (Jvm.Cond.fieldLink "ThingStream$Shapes" (15 : Nat) "ThingStream$Shapes" "numbers" "[I") := hw.2.1 _ (z_mem 37 (by decide +kernel)) rfl
theorem zw_38 (hw : z_Wd w) : z_has w (Jvm.Cond.fieldLinkNest "ThingStream$Reader" (127 : Nat) "ThingStream$Shapes" "numbers" "[I" "ThingStream") := hw.2.1 _ (z_mem 38 (by decide +kernel)) rfl
theorem zw_39 (hw : z_Wd w) : z_has w (Jvm.Cond.fieldLink "ThingStream$Shapes" (19 : Nat) "ThingStream$Shapes" "parents" "[I") := hw.2.1 _ (z_mem 39 (by decide +kernel)) rfl
theorem zw_40 (hw : z_Wd w) : z_has w (Jvm.Cond.fieldLinkNest "ThingStream$Reader" (191 : Nat) "ThingStream$Shapes" "parents" "[I" "ThingStream") := hw.2.1 _ (z_mem 40 (by decide +kernel)) rfl
theorem zw_41 (hw : z_Wd w) : z_has w (Jvm.Cond.fieldLink "ThingStream$Shapes" (22 : Nat) "ThingStream$Shapes" "marks" "[I") := hw.2.1 _ (z_mem 41 (by decide +kernel)) rfl
theorem zw_42 (hw : z_Wd w) : z_has w (Jvm.Cond.fieldLinkNest "ThingStream$Writer" (133 : Nat) "ThingStream$Shapes" "marks" "[I" "ThingStream") := hw.2.1 _ (z_mem 42 (by decide +kernel)) rfl
theorem zw_43 (hw : z_Wd w) : z_has w (Jvm.Cond.fieldLinkNest "ThingStream$Reader" (204 : Nat) "ThingStream$Shapes" "marks" "[I" "ThingStream") := hw.2.1 _ (z_mem 43 (by decide +kernel)) rfl
theorem zw_44 (hw : z_Wd w) : z_has w (Jvm.Cond.fieldLink "ThingStream$Shapes" (25 : Nat) "ThingStream$Shapes" "fieldCounts" "[I") := hw.2.1 _ (z_mem 44 (by decide +kernel)) rfl
theorem zw_45 (hw : z_Wd w) : z_has w (Jvm.Cond.fieldLinkNest "ThingStream$Writer" (110 : Nat) "ThingStream$Shapes" "fieldCounts" "[I" "ThingStream") := hw.2.1 _ (z_mem 45 (by decide +kernel)) rfl
theorem zw_46 (hw : z_Wd w) : z_has w (Jvm.Cond.fieldLinkNest "ThingStream$Reader" (155 : Nat) "ThingStream$Shapes" "fieldCounts" "[I" "ThingStream") := hw.2.1 _ (z_mem 46 (by decide +kernel)) rfl
theorem zw_47 (hw : z_Wd w) : z_has w (Jvm.Cond.fieldLinkNest "ThingStream$Things" (49 : Nat) "ThingStream$Shapes" "fieldCounts" "[I" "ThingStream") := hw.2.1 _ (z_mem 47 (by decide +kernel)) rfl
theorem zw_48 (hw : z_Wd w) : z_has w (Jvm.Cond.fieldLink "ThingStream$Shapes" (28 : Nat) "ThingStream$Shapes" "names" "[I") := hw.2.1 _ (z_mem 48 (by decide +kernel)) rfl
theorem zw_49 (hw : z_Wd w) : z_has w (Jvm.Cond.fieldLink "ThingStream$Shapes" (31 : Nat) "ThingStream$Shapes" "kinds" "[I") := hw.2.1 _ (z_mem 49 (by decide +kernel)) rfl
theorem zw_65 (hw : z_Wd w) : z_has w (Jvm.Cond.arrayClass Jvm.ClassFile.FieldType.boolean) := hw.2.1 _ (z_mem 65 (by decide +kernel)) rfl
theorem zw_66 (hw : z_Wd w) : z_has w (Jvm.Cond.arrayClass Jvm.ClassFile.FieldType.int) := hw.2.1 _ (z_mem 66 (by decide +kernel)) rfl
theorem zw_73 (hw : z_Wd w) : z_has w (Jvm.Cond.fieldLink "ThingStream$Things" (9 : Nat) "ThingStream$Things" "shapes" "[I") := hw.2.1 _ (z_mem 73 (by decide +kernel)) rfl
theorem zw_74 (hw : z_Wd w) : z_has w (Jvm.Cond.fieldLinkNest "ThingStream$Side" (31 : Nat) "ThingStream$Things" "shapes" "[I" "ThingStream") := hw.2.1 _ (z_mem 74 (by decide +kernel)) rfl
theorem zw_75 (hw : z_Wd w) : z_has w (Jvm.Cond.fieldLinkNest "ThingStream$Writer" (88 : Nat) "ThingStream$Things" "shapes" "[I" "ThingStream") := hw.2.1 _ (z_mem 75 (by decide +kernel)) rfl
theorem zw_76 (hw : z_Wd w) : z_has w (Jvm.Cond.fieldLinkNest "ThingStream" (163 : Nat) "ThingStream$Things" "shapes" "[I" "ThingStream") := hw.2.1 _ (z_mem 76 (by decide +kernel)) rfl
theorem zw_77 (hw : z_Wd w) : z_has w (Jvm.Cond.fieldLink "ThingStream$Things" (15 : Nat) "ThingStream$Things" "lengths" "[I") := hw.2.1 _ (z_mem 77 (by decide +kernel)) rfl
theorem zw_78 (hw : z_Wd w) : z_has w (Jvm.Cond.fieldLinkNest "ThingStream$Writer" (70 : Nat) "ThingStream$Things" "lengths" "[I" "ThingStream") := hw.2.1 _ (z_mem 78 (by decide +kernel)) rfl
theorem zw_79 (hw : z_Wd w) : z_has w (Jvm.Cond.fieldLinkNest "ThingStream" (165 : Nat) "ThingStream$Things" "lengths" "[I" "ThingStream") := hw.2.1 _ (z_mem 79 (by decide +kernel)) rfl
theorem zw_80 (hw : z_Wd w) : z_has w (Jvm.Cond.fieldLink "ThingStream$Things" (18 : Nat) "ThingStream$Things" "values" "[J") := hw.2.1 _ (z_mem 80 (by decide +kernel)) rfl
theorem zw_81 (hw : z_Wd w) : z_has w (Jvm.Cond.fieldLinkNest "ThingStream$Writer" (81 : Nat) "ThingStream$Things" "values" "[J" "ThingStream") := hw.2.1 _ (z_mem 81 (by decide +kernel)) rfl
theorem zw_82 (hw : z_Wd w) : z_has w (Jvm.Cond.fieldLinkNest "ThingStream" (102 : Nat) "ThingStream$Things" "values" "[J" "ThingStream") := hw.2.1 _ (z_mem 82 (by decide +kernel)) rfl
theorem zw_83 (hw : z_Wd w) : z_has w (Jvm.Cond.fieldLinkNest "ThingStream$Reader" (114 : Nat) "ThingStream$Things" "values" "[J" "ThingStream") := hw.2.1 _ (z_mem 83 (by decide +kernel)) rfl
theorem zw_84 (hw : z_Wd w) : z_has w (Jvm.Cond.fieldLink "ThingStream$Things" (22 : Nat) "ThingStream$Things" "count" "I") := hw.2.1 _ (z_mem 84 (by decide +kernel)) rfl
theorem zw_85 (hw : z_Wd w) : z_has w (Jvm.Cond.fieldLinkNest "ThingStream$Reader" (103 : Nat) "ThingStream$Things" "count" "I" "ThingStream") := hw.2.1 _ (z_mem 85 (by decide +kernel)) rfl
theorem zw_86 (hw : z_Wd w) : z_has w (Jvm.Cond.fieldLinkNest "ThingStream" (156 : Nat) "ThingStream$Things" "count" "I" "ThingStream") := hw.2.1 _ (z_mem 86 (by decide +kernel)) rfl
theorem zw_96 (hw : z_Wd w) : z_has w (Jvm.Cond.arrayClass Jvm.ClassFile.FieldType.long) := hw.2.1 _ (z_mem 96 (by decide +kernel)) rfl
theorem zw_97 (hw : z_Wd w) : z_has w (Jvm.Cond.fieldLink "ThingStream$Side" (14 : Nat) "ThingStream$Side" "shapes" "LThingStream$Shapes;") := hw.2.1 _ (z_mem 97 (by decide +kernel)) rfl
theorem zw_98 (hw : z_Wd w) : z_has w (Jvm.Cond.fieldLinkNest "ThingStream" (48 : Nat) "ThingStream$Side" "shapes" "LThingStream$Shapes;" "ThingStream") := hw.2.1 _ (z_mem 98 (by decide +kernel)) rfl
theorem zw_99 (hw : z_Wd w) : z_has w (Jvm.Cond.fieldLinkNest "ThingStream$Writer" (94 : Nat) "ThingStream$Side" "shapes" "LThingStream$Shapes;" "ThingStream") := hw.2.1 _ (z_mem 99 (by decide +kernel)) rfl
theorem zw_100 (hw : z_Wd w) : z_has w (Jvm.Cond.fieldLinkNest "ThingStream$Reader" (130 : Nat) "ThingStream$Side" "shapes" "LThingStream$Shapes;" "ThingStream") := hw.2.1 _ (z_mem 100 (by decide +kernel)) rfl
theorem zw_101 (hw : z_Wd w) : z_has w (Jvm.Cond.fieldLink "ThingStream$Side" (23 : Nat) "ThingStream$Side" "held" "LThingStream$Things;") := hw.2.1 _ (z_mem 101 (by decide +kernel)) rfl
theorem zw_102 (hw : z_Wd w) : z_has w (Jvm.Cond.fieldLinkNest "ThingStream" (58 : Nat) "ThingStream$Side" "held" "LThingStream$Things;" "ThingStream") := hw.2.1 _ (z_mem 102 (by decide +kernel)) rfl
theorem zw_103 (hw : z_Wd w) : z_has w (Jvm.Cond.fieldLinkNest "ThingStream$Writer" (45 : Nat) "ThingStream$Side" "held" "LThingStream$Things;" "ThingStream") := hw.2.1 _ (z_mem 103 (by decide +kernel)) rfl
theorem zw_104 (hw : z_Wd w) : z_has w (Jvm.Cond.fieldLinkNest "ThingStream$Reader" (84 : Nat) "ThingStream$Side" "held" "LThingStream$Things;" "ThingStream") := hw.2.1 _ (z_mem 104 (by decide +kernel)) rfl
theorem zw_116 (hw : z_Wd w) : z_has w (Jvm.Cond.fieldLink "ThingStream$Bytes" (9 : Nat) "ThingStream$Bytes" "bytes" "[I") := hw.2.1 _ (z_mem 116 (by decide +kernel)) rfl
theorem zw_117 (hw : z_Wd w) : z_has w (Jvm.Cond.fieldLinkNest "ThingStream" (138 : Nat) "ThingStream$Bytes" "bytes" "[I" "ThingStream") := hw.2.1 _ (z_mem 117 (by decide +kernel)) rfl
theorem zw_118 (hw : z_Wd w) : z_has w (Jvm.Cond.fieldLinkNest "ThingStream$Reader" (207 : Nat) "ThingStream$Bytes" "bytes" "[I" "ThingStream") := hw.2.1 _ (z_mem 118 (by decide +kernel)) rfl
theorem zw_119 (hw : z_Wd w) : z_has w (Jvm.Cond.fieldLink "ThingStream$Bytes" (15 : Nat) "ThingStream$Bytes" "count" "I") := hw.2.1 _ (z_mem 119 (by decide +kernel)) rfl
theorem zw_120 (hw : z_Wd w) : z_has w (Jvm.Cond.fieldLinkNest "ThingStream$Reader" (69 : Nat) "ThingStream$Bytes" "count" "I" "ThingStream") := hw.2.1 _ (z_mem 120 (by decide +kernel)) rfl
theorem zw_121 (hw : z_Wd w) : z_has w (Jvm.Cond.fieldLinkNest "ThingStream" (133 : Nat) "ThingStream$Bytes" "count" "I" "ThingStream") := hw.2.1 _ (z_mem 121 (by decide +kernel)) rfl
theorem zw_122 (hw : z_Wd w) : z_has w (Jvm.Cond.fieldLink "ThingStream$Bytes" (19 : Nat) "ThingStream$Bytes" "overflowed" "Z") := hw.2.1 _ (z_mem 122 (by decide +kernel)) rfl
theorem zw_123 (hw : z_Wd w) : z_has w (Jvm.Cond.fieldLinkNest "ThingStream" (128 : Nat) "ThingStream$Bytes" "overflowed" "Z" "ThingStream") := hw.2.1 _ (z_mem 123 (by decide +kernel)) rfl
theorem zw_137 (hw : z_Wd w) : z_has w (Jvm.Cond.fieldLink "ThingStream$Writer" (9 : Nat) "ThingStream$Writer" "stream" "LThingStream$Bytes;") := hw.2.1 _ (z_mem 137 (by decide +kernel)) rfl
theorem zw_138 (hw : z_Wd w) : z_has w (Jvm.Cond.fieldLink "ThingStream$Writer" (15 : Nat) "ThingStream$Writer" "side" "LThingStream$Side;") := hw.2.1 _ (z_mem 138 (by decide +kernel)) rfl
theorem zw_139 (hw : z_Wd w) : z_has w (Jvm.Cond.fieldLink "ThingStream$Writer" (19 : Nat) "ThingStream$Writer" "thingHandles" "[I") := hw.2.1 _ (z_mem 139 (by decide +kernel)) rfl
theorem zw_140 (hw : z_Wd w) : z_has w (Jvm.Cond.fieldLink "ThingStream$Writer" (23 : Nat) "ThingStream$Writer" "shapeHandles" "[I") := hw.2.1 _ (z_mem 140 (by decide +kernel)) rfl
theorem zw_141 (hw : z_Wd w) : z_has w (Jvm.Cond.fieldLink "ThingStream$Writer" (32 : Nat) "ThingStream$Writer" "handleCount" "I") := hw.2.1 _ (z_mem 141 (by decide +kernel)) rfl
theorem zw_172 (hw : z_Wd w) : z_has w (Jvm.Cond.fieldLink "ThingStream$Reader" (9 : Nat) "ThingStream$Reader" "stream" "LThingStream$Bytes;") := hw.2.1 _ (z_mem 172 (by decide +kernel)) rfl
theorem zw_173 (hw : z_Wd w) : z_has w (Jvm.Cond.fieldLink "ThingStream$Reader" (15 : Nat) "ThingStream$Reader" "side" "LThingStream$Side;") := hw.2.1 _ (z_mem 173 (by decide +kernel)) rfl
theorem zw_174 (hw : z_Wd w) : z_has w (Jvm.Cond.fieldLink "ThingStream$Reader" (28 : Nat) "ThingStream$Reader" "limits" "[I") := hw.2.1 _ (z_mem 174 (by decide +kernel)) rfl
theorem zw_175 (hw : z_Wd w) : z_has w (Jvm.Cond.fieldLink "ThingStream$Reader" (36 : Nat) "ThingStream$Reader" "told" "LThingStream$Shapes;") := hw.2.1 _ (z_mem 175 (by decide +kernel)) rfl
theorem zw_176 (hw : z_Wd w) : z_has w (Jvm.Cond.fieldLink "ThingStream$Reader" (40 : Nat) "ThingStream$Reader" "thingsByHandle" "[I") := hw.2.1 _ (z_mem 176 (by decide +kernel)) rfl
theorem zw_177 (hw : z_Wd w) : z_has w (Jvm.Cond.fieldLink "ThingStream$Reader" (43 : Nat) "ThingStream$Reader" "toldByHandle" "[I") := hw.2.1 _ (z_mem 177 (by decide +kernel)) rfl
theorem zw_178 (hw : z_Wd w) : z_has w (Jvm.Cond.fieldLink "ThingStream$Reader" (49 : Nat) "ThingStream$Reader" "fresh" "LThingStream$Things;") := hw.2.1 _ (z_mem 178 (by decide +kernel)) rfl
theorem zw_179 (hw : z_Wd w) : z_has w (Jvm.Cond.fieldLink "ThingStream$Reader" (60 : Nat) "ThingStream$Reader" "toldCount" "I") := hw.2.1 _ (z_mem 179 (by decide +kernel)) rfl
theorem zw_180 (hw : z_Wd w) : z_has w (Jvm.Cond.fieldLink "ThingStream$Reader" (63 : Nat) "ThingStream$Reader" "handleCount" "I") := hw.2.1 _ (z_mem 180 (by decide +kernel)) rfl
theorem zw_181 (hw : z_Wd w) : z_has w (Jvm.Cond.fieldLink "ThingStream$Reader" (57 : Nat) "ThingStream$Reader" "place" "I") := hw.2.1 _ (z_mem 181 (by decide +kernel)) rfl
theorem zw_182 (hw : z_Wd w) : z_has w (Jvm.Cond.fieldLink "ThingStream$Reader" (53 : Nat) "ThingStream$Reader" "fault" "I") := hw.2.1 _ (z_mem 182 (by decide +kernel)) rfl
theorem zw_183 (hw : z_Wd w) : z_has w (Jvm.Cond.fieldLinkNest "ThingStream" (157 : Nat) "ThingStream$Reader" "fault" "I" "ThingStream") := hw.2.1 _ (z_mem 183 (by decide +kernel)) rfl
theorem zw_207 (hw : z_Wd w) : z_has w (Jvm.Cond.fieldLink "ThingStream" (14 : Nat) "ThingStream" "writing" "LThingStream$Side;") := hw.2.1 _ (z_mem 207 (by decide +kernel)) rfl
theorem zw_208 (hw : z_Wd w) : z_has w (Jvm.Cond.fieldLink "ThingStream" (18 : Nat) "ThingStream" "reading" "LThingStream$Side;") := hw.2.1 _ (z_mem 208 (by decide +kernel)) rfl
theorem zw_209 (hw : z_Wd w) : z_has w (Jvm.Cond.fieldLink "ThingStream" (24 : Nat) "ThingStream" "stream" "LThingStream$Bytes;") := hw.2.1 _ (z_mem 209 (by decide +kernel)) rfl
theorem zw_210 (hw : z_Wd w) : z_has w (Jvm.Cond.fieldLink "ThingStream" (33 : Nat) "ThingStream" "writer" "LThingStream$Writer;") := hw.2.1 _ (z_mem 210 (by decide +kernel)) rfl
theorem zw_211 (hw : z_Wd w) : z_has w (Jvm.Cond.fieldLink "ThingStream" (40 : Nat) "ThingStream" "reader" "LThingStream$Reader;") := hw.2.1 _ (z_mem 211 (by decide +kernel)) rfl
theorem zw_311 (hw : z_Wd w) : z_has w (Jvm.Cond.constantLong "ThingStream$Things" (30 : Nat) (-1 : Int64)) := hw.2.1 _ (z_mem 311 (by decide +kernel)) rfl
theorem zw_691 (hw : z_Wd w) : z_has w (Jvm.Cond.fieldLink "ThingStreamModel" (106 : Nat) "ThingStreamModel" "thrown" "I") := hw.2.1 _ (z_mem 691 (by decide +kernel)) rfl
theorem zw_692 (hw : z_Wd w) : z_has w (Jvm.Cond.fieldLink "ThingStreamModel" (7 : Nat) "ThingStreamModel" "there" "[Z") := hw.2.1 _ (z_mem 692 (by decide +kernel)) rfl
theorem zw_693 (hw : z_Wd w) : z_has w (Jvm.Cond.fieldLink "ThingStreamModel" (13 : Nat) "ThingStreamModel" "parent" "[I") := hw.2.1 _ (z_mem 693 (by decide +kernel)) rfl
theorem zw_694 (hw : z_Wd w) : z_has w (Jvm.Cond.fieldLink "ThingStreamModel" (17 : Nat) "ThingStreamModel" "mark" "[I") := hw.2.1 _ (z_mem 694 (by decide +kernel)) rfl
theorem zw_695 (hw : z_Wd w) : z_has w (Jvm.Cond.fieldLink "ThingStreamModel" (20 : Nat) "ThingStreamModel" "fields" "[I") := hw.2.1 _ (z_mem 695 (by decide +kernel)) rfl
theorem zw_696 (hw : z_Wd w) : z_has w (Jvm.Cond.fieldLink "ThingStreamModel" (23 : Nat) "ThingStreamModel" "name" "[I") := hw.2.1 _ (z_mem 696 (by decide +kernel)) rfl
theorem zw_697 (hw : z_Wd w) : z_has w (Jvm.Cond.fieldLink "ThingStreamModel" (26 : Nat) "ThingStreamModel" "kind" "[I") := hw.2.1 _ (z_mem 697 (by decide +kernel)) rfl
theorem zw_698 (hw : z_Wd w) : z_has w (Jvm.Cond.fieldLink "ThingStreamModel" (29 : Nat) "ThingStreamModel" "count" "[I") := hw.2.1 _ (z_mem 698 (by decide +kernel)) rfl
theorem zw_699 (hw : z_Wd w) : z_has w (Jvm.Cond.fieldLink "ThingStreamModel" (32 : Nat) "ThingStreamModel" "shape" "[I") := hw.2.1 _ (z_mem 699 (by decide +kernel)) rfl
theorem zw_700 (hw : z_Wd w) : z_has w (Jvm.Cond.fieldLink "ThingStreamModel" (35 : Nat) "ThingStreamModel" "length" "[I") := hw.2.1 _ (z_mem 700 (by decide +kernel)) rfl
theorem zw_701 (hw : z_Wd w) : z_has w (Jvm.Cond.fieldLink "ThingStreamModel" (38 : Nat) "ThingStreamModel" "value" "[J") := hw.2.1 _ (z_mem 701 (by decide +kernel)) rfl
theorem zw_702 (hw : z_Wd w) : z_has w (Jvm.Cond.fieldLink "ThingStreamModel" (42 : Nat) "ThingStreamModel" "link" "[I") := hw.2.1 _ (z_mem 702 (by decide +kernel)) rfl
theorem zw_703 (hw : z_Wd w) : z_has w (Jvm.Cond.fieldLink "ThingStreamModel" (144 : Nat) "ThingStreamModel" "size" "I") := hw.2.1 _ (z_mem 703 (by decide +kernel)) rfl
theorem zw_704 (hw : z_Wd w) : z_has w (Jvm.Cond.fieldLink "ThingStreamModel" (45 : Nat) "ThingStreamModel" "stream" "[I") := hw.2.1 _ (z_mem 704 (by decide +kernel)) rfl
theorem zw_705 (hw : z_Wd w) : z_has w (Jvm.Cond.fieldLink "ThingStreamModel" (48 : Nat) "ThingStreamModel" "limits" "[I") := hw.2.1 _ (z_mem 705 (by decide +kernel)) rfl
theorem zw_706 (hw : z_Wd w) : z_has w (Jvm.Cond.fieldLink "ThingStreamModel" (51 : Nat) "ThingStreamModel" "where" "I") := hw.2.1 _ (z_mem 706 (by decide +kernel)) rfl
theorem zw_707 (hw : z_Wd w) : z_has w (Jvm.Cond.fieldLink "ThingStreamModel" (160 : Nat) "ThingStreamModel" "handles" "I") := hw.2.1 _ (z_mem 707 (by decide +kernel)) rfl
theorem zw_708 (hw : z_Wd w) : z_has w (Jvm.Cond.fieldLink "ThingStreamModel" (55 : Nat) "ThingStreamModel" "shapeHandle" "[I") := hw.2.1 _ (z_mem 708 (by decide +kernel)) rfl
theorem zw_709 (hw : z_Wd w) : z_has w (Jvm.Cond.fieldLink "ThingStreamModel" (58 : Nat) "ThingStreamModel" "thingHandle" "[I") := hw.2.1 _ (z_mem 709 (by decide +kernel)) rfl
theorem zw_710 (hw : z_Wd w) : z_has w (Jvm.Cond.fieldLink "ThingStreamModel" (61 : Nat) "ThingStreamModel" "handle" "[I") := hw.2.1 _ (z_mem 710 (by decide +kernel)) rfl
theorem zw_711 (hw : z_Wd w) : z_has w (Jvm.Cond.fieldLink "ThingStreamModel" (166 : Nat) "ThingStreamModel" "open" "I") := hw.2.1 _ (z_mem 711 (by decide +kernel)) rfl
theorem zw_712 (hw : z_Wd w) : z_has w (Jvm.Cond.fieldLink "ThingStreamModel" (64 : Nat) "ThingStreamModel" "opened" "[I") := hw.2.1 _ (z_mem 712 (by decide +kernel)) rfl
theorem zw_713 (hw : z_Wd w) : z_has w (Jvm.Cond.fieldLink "ThingStreamModel" (67 : Nat) "ThingStreamModel" "far" "[I") := hw.2.1 _ (z_mem 713 (by decide +kernel)) rfl
theorem zw_714 (hw : z_Wd w) : z_has w (Jvm.Cond.fieldLink "ThingStreamModel" (181 : Nat) "ThingStreamModel" "p" "I") := hw.2.1 _ (z_mem 714 (by decide +kernel)) rfl
theorem zw_715 (hw : z_Wd w) : z_has w (Jvm.Cond.fieldLink "ThingStreamModel" (178 : Nat) "ThingStreamModel" "fault" "I") := hw.2.1 _ (z_mem 715 (by decide +kernel)) rfl
theorem zw_716 (hw : z_Wd w) : z_has w (Jvm.Cond.fieldLink "ThingStreamModel" (205 : Nat) "ThingStreamModel" "descriptions" "I") := hw.2.1 _ (z_mem 716 (by decide +kernel)) rfl
theorem zw_717 (hw : z_Wd w) : z_has w (Jvm.Cond.fieldLink "ThingStreamModel" (70 : Nat) "ThingStreamModel" "dShape" "[I") := hw.2.1 _ (z_mem 717 (by decide +kernel)) rfl
theorem zw_718 (hw : z_Wd w) : z_has w (Jvm.Cond.fieldLink "ThingStreamModel" (73 : Nat) "ThingStreamModel" "dAt" "[I") := hw.2.1 _ (z_mem 718 (by decide +kernel)) rfl
theorem zw_719 (hw : z_Wd w) : z_has w (Jvm.Cond.fieldLink "ThingStreamModel" (76 : Nat) "ThingStreamModel" "dParent" "[I") := hw.2.1 _ (z_mem 719 (by decide +kernel)) rfl
theorem zw_720 (hw : z_Wd w) : z_has w (Jvm.Cond.fieldLink "ThingStreamModel" (79 : Nat) "ThingStreamModel" "dMark" "[I") := hw.2.1 _ (z_mem 720 (by decide +kernel)) rfl
theorem zw_721 (hw : z_Wd w) : z_has w (Jvm.Cond.fieldLink "ThingStreamModel" (82 : Nat) "ThingStreamModel" "dFields" "[I") := hw.2.1 _ (z_mem 721 (by decide +kernel)) rfl
theorem zw_722 (hw : z_Wd w) : z_has w (Jvm.Cond.fieldLink "ThingStreamModel" (85 : Nat) "ThingStreamModel" "dName" "[I") := hw.2.1 _ (z_mem 722 (by decide +kernel)) rfl
theorem zw_723 (hw : z_Wd w) : z_has w (Jvm.Cond.fieldLink "ThingStreamModel" (88 : Nat) "ThingStreamModel" "dKind" "[I") := hw.2.1 _ (z_mem 723 (by decide +kernel)) rfl
theorem zw_724 (hw : z_Wd w) : z_has w (Jvm.Cond.fieldLink "ThingStreamModel" (218 : Nat) "ThingStreamModel" "things" "I") := hw.2.1 _ (z_mem 724 (by decide +kernel)) rfl
theorem zw_725 (hw : z_Wd w) : z_has w (Jvm.Cond.fieldLink "ThingStreamModel" (91 : Nat) "ThingStreamModel" "tDescription" "[I") := hw.2.1 _ (z_mem 725 (by decide +kernel)) rfl
theorem zw_726 (hw : z_Wd w) : z_has w (Jvm.Cond.fieldLink "ThingStreamModel" (94 : Nat) "ThingStreamModel" "tLength" "[I") := hw.2.1 _ (z_mem 726 (by decide +kernel)) rfl
theorem zw_727 (hw : z_Wd w) : z_has w (Jvm.Cond.fieldLink "ThingStreamModel" (97 : Nat) "ThingStreamModel" "tValue" "[J") := hw.2.1 _ (z_mem 727 (by decide +kernel)) rfl
theorem zw_728 (hw : z_Wd w) : z_has w (Jvm.Cond.fieldLink "ThingStreamModel" (100 : Nat) "ThingStreamModel" "tHas" "[I") := hw.2.1 _ (z_mem 728 (by decide +kernel)) rfl
theorem zw_729 (hw : z_Wd w) : z_has w (Jvm.Cond.fieldLink "ThingStreamModel" (103 : Nat) "ThingStreamModel" "tLink" "[I") := hw.2.1 _ (z_mem 729 (by decide +kernel)) rfl
theorem zw_730 (hw : z_Wd w) : z_has w (Jvm.Cond.fieldLink "ThingStreamModel" (202 : Nat) "ThingStreamModel" "began" "I") := hw.2.1 _ (z_mem 730 (by decide +kernel)) rfl
theorem zw_842 (hw : z_Wd w) : z_has w (Jvm.Cond.constantLong "ThingStreamModel" (123 : Nat) (-1 : Int64)) := hw.2.1 _ (z_mem 842 (by decide +kernel)) rfl
theorem zw_902 (hw : z_Wd w) : z_has w (Jvm.Cond.constantLong "ThingStreamModel" (151 : Nat) (255 : Int64)) := hw.2.1 _ (z_mem 902 (by decide +kernel)) rfl
theorem zw_1023 (hw : z_Wd w) : z_has w (Jvm.Cond.constantLong "ThingStreamLaw" (41 : Nat) (4294967295 : Int64)) := hw.2.1 _ (z_mem 1023 (by decide +kernel)) rfl
theorem zu_0 (hw : z_Wd w) : ∀ c ∈ u_ws zR0 zT0 3, z_has w c := by
  intro c hc
  obtain ⟨k, hk, rfl⟩ := List.mem_map.mp hc
  have hk := List.mem_range.mp hk
  match k, hk with
  | 0, _ => exact hw.2.1 _ (z_mem 124 (by decide +kernel)) rfl
  | 1, _ => exact hw.2.1 _ (z_mem 126 (by decide +kernel)) rfl
  | 2, _ => exact hw.2.1 _ (z_mem 128 (by decide +kernel)) rfl
theorem zu_1 (hw : z_Wd w) : ∀ c ∈ u_ws zR1 zT1 11, z_has w c := by
  intro c hc
  obtain ⟨k, hk, rfl⟩ := List.mem_map.mp hc
  have hk := List.mem_range.mp hk
  match k, hk with
  | 0, _ => exact hw.2.1 _ (z_mem 184 (by decide +kernel)) rfl
  | 1, _ => exact hw.2.1 _ (z_mem 186 (by decide +kernel)) rfl
  | 2, _ => exact hw.2.1 _ (z_mem 188 (by decide +kernel)) rfl
  | 3, _ => exact hw.2.1 _ (z_mem 190 (by decide +kernel)) rfl
  | 4, _ => exact hw.2.1 _ (z_mem 192 (by decide +kernel)) rfl
  | 5, _ => exact hw.2.1 _ (z_mem 194 (by decide +kernel)) rfl
  | 6, _ => exact hw.2.1 _ (z_mem 196 (by decide +kernel)) rfl
  | 7, _ => exact hw.2.1 _ (z_mem 198 (by decide +kernel)) rfl
  | 8, _ => exact hw.2.1 _ (z_mem 200 (by decide +kernel)) rfl
  | 9, _ => exact hw.2.1 _ (z_mem 202 (by decide +kernel)) rfl
  | 10, _ => exact hw.2.1 _ (z_mem 204 (by decide +kernel)) rfl
theorem zu_2 (hw : z_Wd w) : ∀ c ∈ u_ws zR2 zT2 7, z_has w c := by
  intro c hc
  obtain ⟨k, hk, rfl⟩ := List.mem_map.mp hc
  have hk := List.mem_range.mp hk
  match k, hk with
  | 0, _ => exact hw.2.1 _ (z_mem 50 (by decide +kernel)) rfl
  | 1, _ => exact hw.2.1 _ (z_mem 52 (by decide +kernel)) rfl
  | 2, _ => exact hw.2.1 _ (z_mem 54 (by decide +kernel)) rfl
  | 3, _ => exact hw.2.1 _ (z_mem 56 (by decide +kernel)) rfl
  | 4, _ => exact hw.2.1 _ (z_mem 58 (by decide +kernel)) rfl
  | 5, _ => exact hw.2.1 _ (z_mem 60 (by decide +kernel)) rfl
  | 6, _ => exact hw.2.1 _ (z_mem 62 (by decide +kernel)) rfl
theorem zu_3 (hw : z_Wd w) : ∀ c ∈ u_ws zR3 zT3 2, z_has w c := by
  intro c hc
  obtain ⟨k, hk, rfl⟩ := List.mem_map.mp hc
  have hk := List.mem_range.mp hk
  match k, hk with
  | 0, _ => exact hw.2.1 _ (z_mem 105 (by decide +kernel)) rfl
  | 1, _ => exact hw.2.1 _ (z_mem 107 (by decide +kernel)) rfl
theorem zu_4 (hw : z_Wd w) : ∀ c ∈ u_ws zR4 zT4 4, z_has w c := by
  intro c hc
  obtain ⟨k, hk, rfl⟩ := List.mem_map.mp hc
  have hk := List.mem_range.mp hk
  match k, hk with
  | 0, _ => exact hw.2.1 _ (z_mem 87 (by decide +kernel)) rfl
  | 1, _ => exact hw.2.1 _ (z_mem 89 (by decide +kernel)) rfl
  | 2, _ => exact hw.2.1 _ (z_mem 91 (by decide +kernel)) rfl
  | 3, _ => exact hw.2.1 _ (z_mem 93 (by decide +kernel)) rfl
theorem zu_5 (hw : z_Wd w) : ∀ c ∈ u_ws zR5 zT5 5, z_has w c := by
  intro c hc
  obtain ⟨k, hk, rfl⟩ := List.mem_map.mp hc
  have hk := List.mem_range.mp hk
  match k, hk with
  | 0, _ => exact hw.2.1 _ (z_mem 142 (by decide +kernel)) rfl
  | 1, _ => exact hw.2.1 _ (z_mem 144 (by decide +kernel)) rfl
  | 2, _ => exact hw.2.1 _ (z_mem 146 (by decide +kernel)) rfl
  | 3, _ => exact hw.2.1 _ (z_mem 148 (by decide +kernel)) rfl
  | 4, _ => exact hw.2.1 _ (z_mem 150 (by decide +kernel)) rfl
theorem zu_6 (hw : z_Wd w) : ∀ c ∈ u_ws zR6 zT6 5, z_has w c := by
  intro c hc
  obtain ⟨k, hk, rfl⟩ := List.mem_map.mp hc
  have hk := List.mem_range.mp hk
  match k, hk with
  | 0, _ => exact hw.2.1 _ (z_mem 212 (by decide +kernel)) rfl
  | 1, _ => exact hw.2.1 _ (z_mem 214 (by decide +kernel)) rfl
  | 2, _ => exact hw.2.1 _ (z_mem 216 (by decide +kernel)) rfl
  | 3, _ => exact hw.2.1 _ (z_mem 218 (by decide +kernel)) rfl
  | 4, _ => exact hw.2.1 _ (z_mem 220 (by decide +kernel)) rfl
theorem zu_7 (hw : z_Wd w) : ∀ c ∈ u_ws zR7 zT7 40, z_has w c := by
  intro c hc
  obtain ⟨k, hk, rfl⟩ := List.mem_map.mp hc
  have hk := List.mem_range.mp hk
  match k, hk with
  | 0, _ => exact hw.2.1 _ (z_mem 731 (by decide +kernel)) rfl
  | 1, _ => exact hw.2.1 _ (z_mem 733 (by decide +kernel)) rfl
  | 2, _ => exact hw.2.1 _ (z_mem 735 (by decide +kernel)) rfl
  | 3, _ => exact hw.2.1 _ (z_mem 737 (by decide +kernel)) rfl
  | 4, _ => exact hw.2.1 _ (z_mem 739 (by decide +kernel)) rfl
  | 5, _ => exact hw.2.1 _ (z_mem 741 (by decide +kernel)) rfl
  | 6, _ => exact hw.2.1 _ (z_mem 743 (by decide +kernel)) rfl
  | 7, _ => exact hw.2.1 _ (z_mem 745 (by decide +kernel)) rfl
  | 8, _ => exact hw.2.1 _ (z_mem 747 (by decide +kernel)) rfl
  | 9, _ => exact hw.2.1 _ (z_mem 749 (by decide +kernel)) rfl
  | 10, _ => exact hw.2.1 _ (z_mem 751 (by decide +kernel)) rfl
  | 11, _ => exact hw.2.1 _ (z_mem 753 (by decide +kernel)) rfl
  | 12, _ => exact hw.2.1 _ (z_mem 755 (by decide +kernel)) rfl
  | 13, _ => exact hw.2.1 _ (z_mem 757 (by decide +kernel)) rfl
  | 14, _ => exact hw.2.1 _ (z_mem 759 (by decide +kernel)) rfl
  | 15, _ => exact hw.2.1 _ (z_mem 761 (by decide +kernel)) rfl
  | 16, _ => exact hw.2.1 _ (z_mem 763 (by decide +kernel)) rfl
  | 17, _ => exact hw.2.1 _ (z_mem 765 (by decide +kernel)) rfl
  | 18, _ => exact hw.2.1 _ (z_mem 767 (by decide +kernel)) rfl
  | 19, _ => exact hw.2.1 _ (z_mem 769 (by decide +kernel)) rfl
  | 20, _ => exact hw.2.1 _ (z_mem 771 (by decide +kernel)) rfl
  | 21, _ => exact hw.2.1 _ (z_mem 773 (by decide +kernel)) rfl
  | 22, _ => exact hw.2.1 _ (z_mem 775 (by decide +kernel)) rfl
  | 23, _ => exact hw.2.1 _ (z_mem 777 (by decide +kernel)) rfl
  | 24, _ => exact hw.2.1 _ (z_mem 779 (by decide +kernel)) rfl
  | 25, _ => exact hw.2.1 _ (z_mem 781 (by decide +kernel)) rfl
  | 26, _ => exact hw.2.1 _ (z_mem 783 (by decide +kernel)) rfl
  | 27, _ => exact hw.2.1 _ (z_mem 785 (by decide +kernel)) rfl
  | 28, _ => exact hw.2.1 _ (z_mem 787 (by decide +kernel)) rfl
  | 29, _ => exact hw.2.1 _ (z_mem 789 (by decide +kernel)) rfl
  | 30, _ => exact hw.2.1 _ (z_mem 791 (by decide +kernel)) rfl
  | 31, _ => exact hw.2.1 _ (z_mem 793 (by decide +kernel)) rfl
  | 32, _ => exact hw.2.1 _ (z_mem 795 (by decide +kernel)) rfl
  | 33, _ => exact hw.2.1 _ (z_mem 797 (by decide +kernel)) rfl
  | 34, _ => exact hw.2.1 _ (z_mem 799 (by decide +kernel)) rfl
  | 35, _ => exact hw.2.1 _ (z_mem 801 (by decide +kernel)) rfl
  | 36, _ => exact hw.2.1 _ (z_mem 803 (by decide +kernel)) rfl
  | 37, _ => exact hw.2.1 _ (z_mem 805 (by decide +kernel)) rfl
  | 38, _ => exact hw.2.1 _ (z_mem 807 (by decide +kernel)) rfl
  | 39, _ => exact hw.2.1 _ (z_mem 809 (by decide +kernel)) rfl
  | k + 40, h => exact absurd h (by omega)
theorem zf_TS_14 (hw : z_Wd w) : z_fld w "ThingStream" 14 6 0 := ⟨zR6, zT6, 5, rfl, by decide, zu_6 hw, Or.inl (zw_207 hw)⟩
theorem zp_TS_14 (hw : z_Wd w) : z_fldP w "ThingStream" 14 6 0 (.object "ThingStream$Side") true := ⟨zR6, zT6, 5, zt6, rfl, by decide, zu_6 hw, Or.inl (zw_207 hw), zt6_ok, zn6, zt6_ok 0 (by decide), rfl, fun h => rfl⟩
theorem zf_TS_18 (hw : z_Wd w) : z_fld w "ThingStream" 18 6 1 := ⟨zR6, zT6, 5, rfl, by decide, zu_6 hw, Or.inl (zw_208 hw)⟩
theorem zp_TS_18 (hw : z_Wd w) : z_fldP w "ThingStream" 18 6 1 (.object "ThingStream$Side") true := ⟨zR6, zT6, 5, zt6, rfl, by decide, zu_6 hw, Or.inl (zw_208 hw), zt6_ok, zn6, zt6_ok 1 (by decide), rfl, fun h => rfl⟩
theorem zf_TS_24 (hw : z_Wd w) : z_fld w "ThingStream" 24 6 2 := ⟨zR6, zT6, 5, rfl, by decide, zu_6 hw, Or.inl (zw_209 hw)⟩
theorem zp_TS_24 (hw : z_Wd w) : z_fldP w "ThingStream" 24 6 2 (.object "ThingStream$Bytes") true := ⟨zR6, zT6, 5, zt6, rfl, by decide, zu_6 hw, Or.inl (zw_209 hw), zt6_ok, zn6, zt6_ok 2 (by decide), rfl, fun h => rfl⟩
theorem zf_TS_33 (hw : z_Wd w) : z_fld w "ThingStream" 33 6 3 := ⟨zR6, zT6, 5, rfl, by decide, zu_6 hw, Or.inl (zw_210 hw)⟩
theorem zp_TS_33 (hw : z_Wd w) : z_fldP w "ThingStream" 33 6 3 (.object "ThingStream$Writer") true := ⟨zR6, zT6, 5, zt6, rfl, by decide, zu_6 hw, Or.inl (zw_210 hw), zt6_ok, zn6, zt6_ok 3 (by decide), rfl, fun h => rfl⟩
theorem zf_TS_40 (hw : z_Wd w) : z_fld w "ThingStream" 40 6 4 := ⟨zR6, zT6, 5, rfl, by decide, zu_6 hw, Or.inl (zw_211 hw)⟩
theorem zp_TS_40 (hw : z_Wd w) : z_fldP w "ThingStream" 40 6 4 (.object "ThingStream$Reader") true := ⟨zR6, zT6, 5, zt6, rfl, by decide, zu_6 hw, Or.inl (zw_211 hw), zt6_ok, zn6, zt6_ok 4 (by decide), rfl, fun h => rfl⟩
theorem zf_TS_48 (hw : z_Wd w) : z_fld w "ThingStream" 48 3 0 := ⟨zR3, zT3, 2, rfl, by decide, zu_3 hw, Or.inr ⟨"ThingStream", zw_98 hw⟩⟩
theorem zf_TS_58 (hw : z_Wd w) : z_fld w "ThingStream" 58 3 1 := ⟨zR3, zT3, 2, rfl, by decide, zu_3 hw, Or.inr ⟨"ThingStream", zw_102 hw⟩⟩
theorem zp_TS_58 (hw : z_Wd w) : z_fldP w "ThingStream" 58 3 1 (.object "ThingStream$Things") false := ⟨zR3, zT3, 2, zt3, rfl, by decide, zu_3 hw, Or.inr ⟨rfl, "ThingStream", zw_102 hw⟩, zt3_ok, zn3, zt3_ok 1 (by decide), rfl, fun h => by cases h⟩
theorem zf_TS_102 (hw : z_Wd w) : z_fld w "ThingStream" 102 4 2 := ⟨zR4, zT4, 4, rfl, by decide, zu_4 hw, Or.inr ⟨"ThingStream", zw_82 hw⟩⟩
theorem zf_TS_128 (hw : z_Wd w) : z_fld w "ThingStream" 128 0 2 := ⟨zR0, zT0, 3, rfl, by decide, zu_0 hw, Or.inr ⟨"ThingStream", zw_123 hw⟩⟩
theorem zp_TS_128 (hw : z_Wd w) : z_fldP w "ThingStream" 128 0 2 (.boolean) false := ⟨zR0, zT0, 3, zt0, rfl, by decide, zu_0 hw, Or.inr ⟨rfl, "ThingStream", zw_123 hw⟩, zt0_ok, zn0, zt0_ok 2 (by decide), rfl, fun h => by cases h⟩
theorem zf_TS_133 (hw : z_Wd w) : z_fld w "ThingStream" 133 0 1 := ⟨zR0, zT0, 3, rfl, by decide, zu_0 hw, Or.inr ⟨"ThingStream", zw_121 hw⟩⟩
theorem zp_TS_133 (hw : z_Wd w) : z_fldP w "ThingStream" 133 0 1 (.int) false := ⟨zR0, zT0, 3, zt0, rfl, by decide, zu_0 hw, Or.inr ⟨rfl, "ThingStream", zw_121 hw⟩, zt0_ok, zn0, zt0_ok 1 (by decide), rfl, fun h => by cases h⟩
theorem zf_TS_138 (hw : z_Wd w) : z_fld w "ThingStream" 138 0 0 := ⟨zR0, zT0, 3, rfl, by decide, zu_0 hw, Or.inr ⟨"ThingStream", zw_117 hw⟩⟩
theorem zf_TS_156 (hw : z_Wd w) : z_fld w "ThingStream" 156 4 3 := ⟨zR4, zT4, 4, rfl, by decide, zu_4 hw, Or.inr ⟨"ThingStream", zw_86 hw⟩⟩
theorem zp_TS_156 (hw : z_Wd w) : z_fldP w "ThingStream" 156 4 3 (.int) false := ⟨zR4, zT4, 4, zt4, rfl, by decide, zu_4 hw, Or.inr ⟨rfl, "ThingStream", zw_86 hw⟩, zt4_ok, zn4, zt4_ok 3 (by decide), rfl, fun h => by cases h⟩
theorem zf_TS_157 (hw : z_Wd w) : z_fld w "ThingStream" 157 1 10 := ⟨zR1, zT1, 11, rfl, by decide, zu_1 hw, Or.inr ⟨"ThingStream", zw_183 hw⟩⟩
theorem zp_TS_157 (hw : z_Wd w) : z_fldP w "ThingStream" 157 1 10 (.int) false := ⟨zR1, zT1, 11, zt1, rfl, by decide, zu_1 hw, Or.inr ⟨rfl, "ThingStream", zw_183 hw⟩, zt1_ok, zn1, zt1_ok 10 (by decide), rfl, fun h => by cases h⟩
theorem zf_TS_163 (hw : z_Wd w) : z_fld w "ThingStream" 163 4 0 := ⟨zR4, zT4, 4, rfl, by decide, zu_4 hw, Or.inr ⟨"ThingStream", zw_76 hw⟩⟩
theorem zf_TS_165 (hw : z_Wd w) : z_fld w "ThingStream" 165 4 1 := ⟨zR4, zT4, 4, rfl, by decide, zu_4 hw, Or.inr ⟨"ThingStream", zw_79 hw⟩⟩
theorem zf_Bytes_9 (hw : z_Wd w) : z_fld w "ThingStream$Bytes" 9 0 0 := ⟨zR0, zT0, 3, rfl, by decide, zu_0 hw, Or.inl (zw_116 hw)⟩
theorem zp_Bytes_9 (hw : z_Wd w) : z_fldP w "ThingStream$Bytes" 9 0 0 (.array .int) true := ⟨zR0, zT0, 3, zt0, rfl, by decide, zu_0 hw, Or.inl (zw_116 hw), zt0_ok, zn0, zt0_ok 0 (by decide), rfl, fun h => rfl⟩
theorem zf_Bytes_15 (hw : z_Wd w) : z_fld w "ThingStream$Bytes" 15 0 1 := ⟨zR0, zT0, 3, rfl, by decide, zu_0 hw, Or.inl (zw_119 hw)⟩
theorem zp_Bytes_15 (hw : z_Wd w) : z_fldP w "ThingStream$Bytes" 15 0 1 (.int) false := ⟨zR0, zT0, 3, zt0, rfl, by decide, zu_0 hw, Or.inl (zw_119 hw), zt0_ok, zn0, zt0_ok 1 (by decide), rfl, fun h => by cases h⟩
theorem zf_Bytes_19 (hw : z_Wd w) : z_fld w "ThingStream$Bytes" 19 0 2 := ⟨zR0, zT0, 3, rfl, by decide, zu_0 hw, Or.inl (zw_122 hw)⟩
theorem zp_Bytes_19 (hw : z_Wd w) : z_fldP w "ThingStream$Bytes" 19 0 2 (.boolean) false := ⟨zR0, zT0, 3, zt0, rfl, by decide, zu_0 hw, Or.inl (zw_122 hw), zt0_ok, zn0, zt0_ok 2 (by decide), rfl, fun h => by cases h⟩
theorem zf_Reader_9 (hw : z_Wd w) : z_fld w "ThingStream$Reader" 9 1 0 := ⟨zR1, zT1, 11, rfl, by decide, zu_1 hw, Or.inl (zw_172 hw)⟩
theorem zp_Reader_9 (hw : z_Wd w) : z_fldP w "ThingStream$Reader" 9 1 0 (.object "ThingStream$Bytes") true := ⟨zR1, zT1, 11, zt1, rfl, by decide, zu_1 hw, Or.inl (zw_172 hw), zt1_ok, zn1, zt1_ok 0 (by decide), rfl, fun h => rfl⟩
theorem zf_Reader_15 (hw : z_Wd w) : z_fld w "ThingStream$Reader" 15 1 1 := ⟨zR1, zT1, 11, rfl, by decide, zu_1 hw, Or.inl (zw_173 hw)⟩
theorem zp_Reader_15 (hw : z_Wd w) : z_fldP w "ThingStream$Reader" 15 1 1 (.object "ThingStream$Side") true := ⟨zR1, zT1, 11, zt1, rfl, by decide, zu_1 hw, Or.inl (zw_173 hw), zt1_ok, zn1, zt1_ok 1 (by decide), rfl, fun h => rfl⟩
theorem zf_Reader_28 (hw : z_Wd w) : z_fld w "ThingStream$Reader" 28 1 2 := ⟨zR1, zT1, 11, rfl, by decide, zu_1 hw, Or.inl (zw_174 hw)⟩
theorem zp_Reader_28 (hw : z_Wd w) : z_fldP w "ThingStream$Reader" 28 1 2 (.array .int) true := ⟨zR1, zT1, 11, zt1, rfl, by decide, zu_1 hw, Or.inl (zw_174 hw), zt1_ok, zn1, zt1_ok 2 (by decide), rfl, fun h => rfl⟩
theorem zf_Reader_36 (hw : z_Wd w) : z_fld w "ThingStream$Reader" 36 1 3 := ⟨zR1, zT1, 11, rfl, by decide, zu_1 hw, Or.inl (zw_175 hw)⟩
theorem zp_Reader_36 (hw : z_Wd w) : z_fldP w "ThingStream$Reader" 36 1 3 (.object "ThingStream$Shapes") true := ⟨zR1, zT1, 11, zt1, rfl, by decide, zu_1 hw, Or.inl (zw_175 hw), zt1_ok, zn1, zt1_ok 3 (by decide), rfl, fun h => rfl⟩
theorem zf_Reader_40 (hw : z_Wd w) : z_fld w "ThingStream$Reader" 40 1 4 := ⟨zR1, zT1, 11, rfl, by decide, zu_1 hw, Or.inl (zw_176 hw)⟩
theorem zp_Reader_40 (hw : z_Wd w) : z_fldP w "ThingStream$Reader" 40 1 4 (.array .int) true := ⟨zR1, zT1, 11, zt1, rfl, by decide, zu_1 hw, Or.inl (zw_176 hw), zt1_ok, zn1, zt1_ok 4 (by decide), rfl, fun h => rfl⟩
theorem zf_Reader_43 (hw : z_Wd w) : z_fld w "ThingStream$Reader" 43 1 5 := ⟨zR1, zT1, 11, rfl, by decide, zu_1 hw, Or.inl (zw_177 hw)⟩
theorem zp_Reader_43 (hw : z_Wd w) : z_fldP w "ThingStream$Reader" 43 1 5 (.array .int) true := ⟨zR1, zT1, 11, zt1, rfl, by decide, zu_1 hw, Or.inl (zw_177 hw), zt1_ok, zn1, zt1_ok 5 (by decide), rfl, fun h => rfl⟩
theorem zf_Reader_49 (hw : z_Wd w) : z_fld w "ThingStream$Reader" 49 1 6 := ⟨zR1, zT1, 11, rfl, by decide, zu_1 hw, Or.inl (zw_178 hw)⟩
theorem zp_Reader_49 (hw : z_Wd w) : z_fldP w "ThingStream$Reader" 49 1 6 (.object "ThingStream$Things") false := ⟨zR1, zT1, 11, zt1, rfl, by decide, zu_1 hw, Or.inl (zw_178 hw), zt1_ok, zn1, zt1_ok 6 (by decide), rfl, fun h => by cases h⟩
theorem zf_Reader_53 (hw : z_Wd w) : z_fld w "ThingStream$Reader" 53 1 10 := ⟨zR1, zT1, 11, rfl, by decide, zu_1 hw, Or.inl (zw_182 hw)⟩
theorem zp_Reader_53 (hw : z_Wd w) : z_fldP w "ThingStream$Reader" 53 1 10 (.int) false := ⟨zR1, zT1, 11, zt1, rfl, by decide, zu_1 hw, Or.inl (zw_182 hw), zt1_ok, zn1, zt1_ok 10 (by decide), rfl, fun h => by cases h⟩
theorem zf_Reader_57 (hw : z_Wd w) : z_fld w "ThingStream$Reader" 57 1 9 := ⟨zR1, zT1, 11, rfl, by decide, zu_1 hw, Or.inl (zw_181 hw)⟩
theorem zp_Reader_57 (hw : z_Wd w) : z_fldP w "ThingStream$Reader" 57 1 9 (.int) false := ⟨zR1, zT1, 11, zt1, rfl, by decide, zu_1 hw, Or.inl (zw_181 hw), zt1_ok, zn1, zt1_ok 9 (by decide), rfl, fun h => by cases h⟩
theorem zf_Reader_60 (hw : z_Wd w) : z_fld w "ThingStream$Reader" 60 1 7 := ⟨zR1, zT1, 11, rfl, by decide, zu_1 hw, Or.inl (zw_179 hw)⟩
theorem zp_Reader_60 (hw : z_Wd w) : z_fldP w "ThingStream$Reader" 60 1 7 (.int) false := ⟨zR1, zT1, 11, zt1, rfl, by decide, zu_1 hw, Or.inl (zw_179 hw), zt1_ok, zn1, zt1_ok 7 (by decide), rfl, fun h => by cases h⟩
theorem zf_Reader_63 (hw : z_Wd w) : z_fld w "ThingStream$Reader" 63 1 8 := ⟨zR1, zT1, 11, rfl, by decide, zu_1 hw, Or.inl (zw_180 hw)⟩
theorem zp_Reader_63 (hw : z_Wd w) : z_fldP w "ThingStream$Reader" 63 1 8 (.int) false := ⟨zR1, zT1, 11, zt1, rfl, by decide, zu_1 hw, Or.inl (zw_180 hw), zt1_ok, zn1, zt1_ok 8 (by decide), rfl, fun h => by cases h⟩
theorem zf_Reader_69 (hw : z_Wd w) : z_fld w "ThingStream$Reader" 69 0 1 := ⟨zR0, zT0, 3, rfl, by decide, zu_0 hw, Or.inr ⟨"ThingStream", zw_120 hw⟩⟩
theorem zp_Reader_69 (hw : z_Wd w) : z_fldP w "ThingStream$Reader" 69 0 1 (.int) false := ⟨zR0, zT0, 3, zt0, rfl, by decide, zu_0 hw, Or.inr ⟨rfl, "ThingStream", zw_120 hw⟩, zt0_ok, zn0, zt0_ok 1 (by decide), rfl, fun h => by cases h⟩
theorem zf_Reader_84 (hw : z_Wd w) : z_fld w "ThingStream$Reader" 84 3 1 := ⟨zR3, zT3, 2, rfl, by decide, zu_3 hw, Or.inr ⟨"ThingStream", zw_104 hw⟩⟩
theorem zp_Reader_84 (hw : z_Wd w) : z_fldP w "ThingStream$Reader" 84 3 1 (.object "ThingStream$Things") false := ⟨zR3, zT3, 2, zt3, rfl, by decide, zu_3 hw, Or.inr ⟨rfl, "ThingStream", zw_104 hw⟩, zt3_ok, zn3, zt3_ok 1 (by decide), rfl, fun h => by cases h⟩
theorem zf_Reader_103 (hw : z_Wd w) : z_fld w "ThingStream$Reader" 103 4 3 := ⟨zR4, zT4, 4, rfl, by decide, zu_4 hw, Or.inr ⟨"ThingStream", zw_85 hw⟩⟩
theorem zp_Reader_103 (hw : z_Wd w) : z_fldP w "ThingStream$Reader" 103 4 3 (.int) false := ⟨zR4, zT4, 4, zt4, rfl, by decide, zu_4 hw, Or.inr ⟨rfl, "ThingStream", zw_85 hw⟩, zt4_ok, zn4, zt4_ok 3 (by decide), rfl, fun h => by cases h⟩
theorem zf_Reader_114 (hw : z_Wd w) : z_fld w "ThingStream$Reader" 114 4 2 := ⟨zR4, zT4, 4, rfl, by decide, zu_4 hw, Or.inr ⟨"ThingStream", zw_83 hw⟩⟩
theorem zf_Reader_127 (hw : z_Wd w) : z_fld w "ThingStream$Reader" 127 2 1 := ⟨zR2, zT2, 7, rfl, by decide, zu_2 hw, Or.inr ⟨"ThingStream", zw_38 hw⟩⟩
theorem zf_Reader_130 (hw : z_Wd w) : z_fld w "ThingStream$Reader" 130 3 0 := ⟨zR3, zT3, 2, rfl, by decide, zu_3 hw, Or.inr ⟨"ThingStream", zw_100 hw⟩⟩
theorem zf_Reader_155 (hw : z_Wd w) : z_fld w "ThingStream$Reader" 155 2 4 := ⟨zR2, zT2, 7, rfl, by decide, zu_2 hw, Or.inr ⟨"ThingStream", zw_46 hw⟩⟩
theorem zf_Reader_191 (hw : z_Wd w) : z_fld w "ThingStream$Reader" 191 2 2 := ⟨zR2, zT2, 7, rfl, by decide, zu_2 hw, Or.inr ⟨"ThingStream", zw_40 hw⟩⟩
theorem zf_Reader_204 (hw : z_Wd w) : z_fld w "ThingStream$Reader" 204 2 3 := ⟨zR2, zT2, 7, rfl, by decide, zu_2 hw, Or.inr ⟨"ThingStream", zw_43 hw⟩⟩
theorem zf_Reader_207 (hw : z_Wd w) : z_fld w "ThingStream$Reader" 207 0 0 := ⟨zR0, zT0, 3, rfl, by decide, zu_0 hw, Or.inr ⟨"ThingStream", zw_118 hw⟩⟩
theorem zf_Shapes_9 (hw : z_Wd w) : z_fld w "ThingStream$Shapes" 9 2 0 := ⟨zR2, zT2, 7, rfl, by decide, zu_2 hw, Or.inl (zw_36 hw)⟩
theorem zp_Shapes_9 (hw : z_Wd w) : z_fldP w "ThingStream$Shapes" 9 2 0 (.array .boolean) true := ⟨zR2, zT2, 7, zt2, rfl, by decide, zu_2 hw, Or.inl (zw_36 hw), zt2_ok, zn2, zt2_ok 0 (by decide), rfl, fun h => rfl⟩
theorem zf_Shapes_15 (hw : z_Wd w) : z_fld w "ThingStream$Shapes" 15 2 1 := ⟨zR2, zT2, 7, rfl, by decide, zu_2 hw, Or.inl (zw_37 hw)⟩
theorem zp_Shapes_15 (hw : z_Wd w) : z_fldP w "ThingStream$Shapes" 15 2 1 (.array .int) true := ⟨zR2, zT2, 7, zt2, rfl, by decide, zu_2 hw, Or.inl (zw_37 hw), zt2_ok, zn2, zt2_ok 1 (by decide), rfl, fun h => rfl⟩
theorem zf_Shapes_19 (hw : z_Wd w) : z_fld w "ThingStream$Shapes" 19 2 2 := ⟨zR2, zT2, 7, rfl, by decide, zu_2 hw, Or.inl (zw_39 hw)⟩
theorem zp_Shapes_19 (hw : z_Wd w) : z_fldP w "ThingStream$Shapes" 19 2 2 (.array .int) true := ⟨zR2, zT2, 7, zt2, rfl, by decide, zu_2 hw, Or.inl (zw_39 hw), zt2_ok, zn2, zt2_ok 2 (by decide), rfl, fun h => rfl⟩
theorem zf_Shapes_22 (hw : z_Wd w) : z_fld w "ThingStream$Shapes" 22 2 3 := ⟨zR2, zT2, 7, rfl, by decide, zu_2 hw, Or.inl (zw_41 hw)⟩
theorem zp_Shapes_22 (hw : z_Wd w) : z_fldP w "ThingStream$Shapes" 22 2 3 (.array .int) true := ⟨zR2, zT2, 7, zt2, rfl, by decide, zu_2 hw, Or.inl (zw_41 hw), zt2_ok, zn2, zt2_ok 3 (by decide), rfl, fun h => rfl⟩
theorem zf_Shapes_25 (hw : z_Wd w) : z_fld w "ThingStream$Shapes" 25 2 4 := ⟨zR2, zT2, 7, rfl, by decide, zu_2 hw, Or.inl (zw_44 hw)⟩
theorem zp_Shapes_25 (hw : z_Wd w) : z_fldP w "ThingStream$Shapes" 25 2 4 (.array .int) true := ⟨zR2, zT2, 7, zt2, rfl, by decide, zu_2 hw, Or.inl (zw_44 hw), zt2_ok, zn2, zt2_ok 4 (by decide), rfl, fun h => rfl⟩
theorem zf_Shapes_28 (hw : z_Wd w) : z_fld w "ThingStream$Shapes" 28 2 5 := ⟨zR2, zT2, 7, rfl, by decide, zu_2 hw, Or.inl (zw_48 hw)⟩
theorem zp_Shapes_28 (hw : z_Wd w) : z_fldP w "ThingStream$Shapes" 28 2 5 (.array .int) true := ⟨zR2, zT2, 7, zt2, rfl, by decide, zu_2 hw, Or.inl (zw_48 hw), zt2_ok, zn2, zt2_ok 5 (by decide), rfl, fun h => rfl⟩
theorem zf_Shapes_31 (hw : z_Wd w) : z_fld w "ThingStream$Shapes" 31 2 6 := ⟨zR2, zT2, 7, rfl, by decide, zu_2 hw, Or.inl (zw_49 hw)⟩
theorem zp_Shapes_31 (hw : z_Wd w) : z_fldP w "ThingStream$Shapes" 31 2 6 (.array .int) true := ⟨zR2, zT2, 7, zt2, rfl, by decide, zu_2 hw, Or.inl (zw_49 hw), zt2_ok, zn2, zt2_ok 6 (by decide), rfl, fun h => rfl⟩
theorem zf_Side_14 (hw : z_Wd w) : z_fld w "ThingStream$Side" 14 3 0 := ⟨zR3, zT3, 2, rfl, by decide, zu_3 hw, Or.inl (zw_97 hw)⟩
theorem zp_Side_14 (hw : z_Wd w) : z_fldP w "ThingStream$Side" 14 3 0 (.object "ThingStream$Shapes") true := ⟨zR3, zT3, 2, zt3, rfl, by decide, zu_3 hw, Or.inl (zw_97 hw), zt3_ok, zn3, zt3_ok 0 (by decide), rfl, fun h => rfl⟩
theorem zf_Side_23 (hw : z_Wd w) : z_fld w "ThingStream$Side" 23 3 1 := ⟨zR3, zT3, 2, rfl, by decide, zu_3 hw, Or.inl (zw_101 hw)⟩
theorem zp_Side_23 (hw : z_Wd w) : z_fldP w "ThingStream$Side" 23 3 1 (.object "ThingStream$Things") false := ⟨zR3, zT3, 2, zt3, rfl, by decide, zu_3 hw, Or.inl (zw_101 hw), zt3_ok, zn3, zt3_ok 1 (by decide), rfl, fun h => by cases h⟩
theorem zf_Side_31 (hw : z_Wd w) : z_fld w "ThingStream$Side" 31 4 0 := ⟨zR4, zT4, 4, rfl, by decide, zu_4 hw, Or.inr ⟨"ThingStream", zw_74 hw⟩⟩
theorem zf_Things_9 (hw : z_Wd w) : z_fld w "ThingStream$Things" 9 4 0 := ⟨zR4, zT4, 4, rfl, by decide, zu_4 hw, Or.inl (zw_73 hw)⟩
theorem zp_Things_9 (hw : z_Wd w) : z_fldP w "ThingStream$Things" 9 4 0 (.array .int) true := ⟨zR4, zT4, 4, zt4, rfl, by decide, zu_4 hw, Or.inl (zw_73 hw), zt4_ok, zn4, zt4_ok 0 (by decide), rfl, fun h => rfl⟩
theorem zf_Things_15 (hw : z_Wd w) : z_fld w "ThingStream$Things" 15 4 1 := ⟨zR4, zT4, 4, rfl, by decide, zu_4 hw, Or.inl (zw_77 hw)⟩
theorem zp_Things_15 (hw : z_Wd w) : z_fldP w "ThingStream$Things" 15 4 1 (.array .int) true := ⟨zR4, zT4, 4, zt4, rfl, by decide, zu_4 hw, Or.inl (zw_77 hw), zt4_ok, zn4, zt4_ok 1 (by decide), rfl, fun h => rfl⟩
theorem zf_Things_18 (hw : z_Wd w) : z_fld w "ThingStream$Things" 18 4 2 := ⟨zR4, zT4, 4, rfl, by decide, zu_4 hw, Or.inl (zw_80 hw)⟩
theorem zp_Things_18 (hw : z_Wd w) : z_fldP w "ThingStream$Things" 18 4 2 (.array .long) true := ⟨zR4, zT4, 4, zt4, rfl, by decide, zu_4 hw, Or.inl (zw_80 hw), zt4_ok, zn4, zt4_ok 2 (by decide), rfl, fun h => rfl⟩
theorem zf_Things_22 (hw : z_Wd w) : z_fld w "ThingStream$Things" 22 4 3 := ⟨zR4, zT4, 4, rfl, by decide, zu_4 hw, Or.inl (zw_84 hw)⟩
theorem zp_Things_22 (hw : z_Wd w) : z_fldP w "ThingStream$Things" 22 4 3 (.int) false := ⟨zR4, zT4, 4, zt4, rfl, by decide, zu_4 hw, Or.inl (zw_84 hw), zt4_ok, zn4, zt4_ok 3 (by decide), rfl, fun h => by cases h⟩
theorem zf_Things_49 (hw : z_Wd w) : z_fld w "ThingStream$Things" 49 2 4 := ⟨zR2, zT2, 7, rfl, by decide, zu_2 hw, Or.inr ⟨"ThingStream", zw_47 hw⟩⟩
theorem zf_Writer_9 (hw : z_Wd w) : z_fld w "ThingStream$Writer" 9 5 0 := ⟨zR5, zT5, 5, rfl, by decide, zu_5 hw, Or.inl (zw_137 hw)⟩
theorem zp_Writer_9 (hw : z_Wd w) : z_fldP w "ThingStream$Writer" 9 5 0 (.object "ThingStream$Bytes") true := ⟨zR5, zT5, 5, zt5, rfl, by decide, zu_5 hw, Or.inl (zw_137 hw), zt5_ok, zn5, zt5_ok 0 (by decide), rfl, fun h => rfl⟩
theorem zf_Writer_15 (hw : z_Wd w) : z_fld w "ThingStream$Writer" 15 5 1 := ⟨zR5, zT5, 5, rfl, by decide, zu_5 hw, Or.inl (zw_138 hw)⟩
theorem zp_Writer_15 (hw : z_Wd w) : z_fldP w "ThingStream$Writer" 15 5 1 (.object "ThingStream$Side") true := ⟨zR5, zT5, 5, zt5, rfl, by decide, zu_5 hw, Or.inl (zw_138 hw), zt5_ok, zn5, zt5_ok 1 (by decide), rfl, fun h => rfl⟩
theorem zf_Writer_19 (hw : z_Wd w) : z_fld w "ThingStream$Writer" 19 5 2 := ⟨zR5, zT5, 5, rfl, by decide, zu_5 hw, Or.inl (zw_139 hw)⟩
theorem zp_Writer_19 (hw : z_Wd w) : z_fldP w "ThingStream$Writer" 19 5 2 (.array .int) true := ⟨zR5, zT5, 5, zt5, rfl, by decide, zu_5 hw, Or.inl (zw_139 hw), zt5_ok, zn5, zt5_ok 2 (by decide), rfl, fun h => rfl⟩
theorem zf_Writer_23 (hw : z_Wd w) : z_fld w "ThingStream$Writer" 23 5 3 := ⟨zR5, zT5, 5, rfl, by decide, zu_5 hw, Or.inl (zw_140 hw)⟩
theorem zp_Writer_23 (hw : z_Wd w) : z_fldP w "ThingStream$Writer" 23 5 3 (.array .int) true := ⟨zR5, zT5, 5, zt5, rfl, by decide, zu_5 hw, Or.inl (zw_140 hw), zt5_ok, zn5, zt5_ok 3 (by decide), rfl, fun h => rfl⟩
theorem zf_Writer_32 (hw : z_Wd w) : z_fld w "ThingStream$Writer" 32 5 4 := ⟨zR5, zT5, 5, rfl, by decide, zu_5 hw, Or.inl (zw_141 hw)⟩
theorem zp_Writer_32 (hw : z_Wd w) : z_fldP w "ThingStream$Writer" 32 5 4 (.int) false := ⟨zR5, zT5, 5, zt5, rfl, by decide, zu_5 hw, Or.inl (zw_141 hw), zt5_ok, zn5, zt5_ok 4 (by decide), rfl, fun h => by cases h⟩
theorem zf_Writer_45 (hw : z_Wd w) : z_fld w "ThingStream$Writer" 45 3 1 := ⟨zR3, zT3, 2, rfl, by decide, zu_3 hw, Or.inr ⟨"ThingStream", zw_103 hw⟩⟩
theorem zp_Writer_45 (hw : z_Wd w) : z_fldP w "ThingStream$Writer" 45 3 1 (.object "ThingStream$Things") false := ⟨zR3, zT3, 2, zt3, rfl, by decide, zu_3 hw, Or.inr ⟨rfl, "ThingStream", zw_103 hw⟩, zt3_ok, zn3, zt3_ok 1 (by decide), rfl, fun h => by cases h⟩
theorem zf_Writer_70 (hw : z_Wd w) : z_fld w "ThingStream$Writer" 70 4 1 := ⟨zR4, zT4, 4, rfl, by decide, zu_4 hw, Or.inr ⟨"ThingStream", zw_78 hw⟩⟩
theorem zf_Writer_81 (hw : z_Wd w) : z_fld w "ThingStream$Writer" 81 4 2 := ⟨zR4, zT4, 4, rfl, by decide, zu_4 hw, Or.inr ⟨"ThingStream", zw_81 hw⟩⟩
theorem zf_Writer_88 (hw : z_Wd w) : z_fld w "ThingStream$Writer" 88 4 0 := ⟨zR4, zT4, 4, rfl, by decide, zu_4 hw, Or.inr ⟨"ThingStream", zw_75 hw⟩⟩
theorem zf_Writer_94 (hw : z_Wd w) : z_fld w "ThingStream$Writer" 94 3 0 := ⟨zR3, zT3, 2, rfl, by decide, zu_3 hw, Or.inr ⟨"ThingStream", zw_99 hw⟩⟩
theorem zf_Writer_110 (hw : z_Wd w) : z_fld w "ThingStream$Writer" 110 2 4 := ⟨zR2, zT2, 7, rfl, by decide, zu_2 hw, Or.inr ⟨"ThingStream", zw_45 hw⟩⟩
theorem zf_Writer_133 (hw : z_Wd w) : z_fld w "ThingStream$Writer" 133 2 3 := ⟨zR2, zT2, 7, rfl, by decide, zu_2 hw, Or.inr ⟨"ThingStream", zw_42 hw⟩⟩
theorem zf_Model_7 (hw : z_Wd w) : z_fld w "ThingStreamModel" 7 7 1 := ⟨zR7, zT7, 40, rfl, by decide, zu_7 hw, Or.inl (zw_692 hw)⟩
theorem zp_Model_7 (hw : z_Wd w) : z_fldP w "ThingStreamModel" 7 7 1 (.array .boolean) true := ⟨zR7, zT7, 40, zt7, rfl, by decide, zu_7 hw, Or.inl (zw_692 hw), zt7_ok, zn7, zt7_ok 1 (by decide), rfl, fun h => rfl⟩
theorem zf_Model_13 (hw : z_Wd w) : z_fld w "ThingStreamModel" 13 7 2 := ⟨zR7, zT7, 40, rfl, by decide, zu_7 hw, Or.inl (zw_693 hw)⟩
theorem zp_Model_13 (hw : z_Wd w) : z_fldP w "ThingStreamModel" 13 7 2 (.array .int) true := ⟨zR7, zT7, 40, zt7, rfl, by decide, zu_7 hw, Or.inl (zw_693 hw), zt7_ok, zn7, zt7_ok 2 (by decide), rfl, fun h => rfl⟩
theorem zf_Model_17 (hw : z_Wd w) : z_fld w "ThingStreamModel" 17 7 3 := ⟨zR7, zT7, 40, rfl, by decide, zu_7 hw, Or.inl (zw_694 hw)⟩
theorem zp_Model_17 (hw : z_Wd w) : z_fldP w "ThingStreamModel" 17 7 3 (.array .int) true := ⟨zR7, zT7, 40, zt7, rfl, by decide, zu_7 hw, Or.inl (zw_694 hw), zt7_ok, zn7, zt7_ok 3 (by decide), rfl, fun h => rfl⟩
theorem zf_Model_20 (hw : z_Wd w) : z_fld w "ThingStreamModel" 20 7 4 := ⟨zR7, zT7, 40, rfl, by decide, zu_7 hw, Or.inl (zw_695 hw)⟩
theorem zp_Model_20 (hw : z_Wd w) : z_fldP w "ThingStreamModel" 20 7 4 (.array .int) true := ⟨zR7, zT7, 40, zt7, rfl, by decide, zu_7 hw, Or.inl (zw_695 hw), zt7_ok, zn7, zt7_ok 4 (by decide), rfl, fun h => rfl⟩
theorem zf_Model_23 (hw : z_Wd w) : z_fld w "ThingStreamModel" 23 7 5 := ⟨zR7, zT7, 40, rfl, by decide, zu_7 hw, Or.inl (zw_696 hw)⟩
theorem zp_Model_23 (hw : z_Wd w) : z_fldP w "ThingStreamModel" 23 7 5 (.array .int) true := ⟨zR7, zT7, 40, zt7, rfl, by decide, zu_7 hw, Or.inl (zw_696 hw), zt7_ok, zn7, zt7_ok 5 (by decide), rfl, fun h => rfl⟩
theorem zf_Model_26 (hw : z_Wd w) : z_fld w "ThingStreamModel" 26 7 6 := ⟨zR7, zT7, 40, rfl, by decide, zu_7 hw, Or.inl (zw_697 hw)⟩
theorem zp_Model_26 (hw : z_Wd w) : z_fldP w "ThingStreamModel" 26 7 6 (.array .int) true := ⟨zR7, zT7, 40, zt7, rfl, by decide, zu_7 hw, Or.inl (zw_697 hw), zt7_ok, zn7, zt7_ok 6 (by decide), rfl, fun h => rfl⟩
theorem zf_Model_29 (hw : z_Wd w) : z_fld w "ThingStreamModel" 29 7 7 := ⟨zR7, zT7, 40, rfl, by decide, zu_7 hw, Or.inl (zw_698 hw)⟩
theorem zp_Model_29 (hw : z_Wd w) : z_fldP w "ThingStreamModel" 29 7 7 (.array .int) true := ⟨zR7, zT7, 40, zt7, rfl, by decide, zu_7 hw, Or.inl (zw_698 hw), zt7_ok, zn7, zt7_ok 7 (by decide), rfl, fun h => rfl⟩
theorem zf_Model_32 (hw : z_Wd w) : z_fld w "ThingStreamModel" 32 7 8 := ⟨zR7, zT7, 40, rfl, by decide, zu_7 hw, Or.inl (zw_699 hw)⟩
theorem zp_Model_32 (hw : z_Wd w) : z_fldP w "ThingStreamModel" 32 7 8 (.array .int) true := ⟨zR7, zT7, 40, zt7, rfl, by decide, zu_7 hw, Or.inl (zw_699 hw), zt7_ok, zn7, zt7_ok 8 (by decide), rfl, fun h => rfl⟩
theorem zf_Model_35 (hw : z_Wd w) : z_fld w "ThingStreamModel" 35 7 9 := ⟨zR7, zT7, 40, rfl, by decide, zu_7 hw, Or.inl (zw_700 hw)⟩
theorem zp_Model_35 (hw : z_Wd w) : z_fldP w "ThingStreamModel" 35 7 9 (.array .int) true := ⟨zR7, zT7, 40, zt7, rfl, by decide, zu_7 hw, Or.inl (zw_700 hw), zt7_ok, zn7, zt7_ok 9 (by decide), rfl, fun h => rfl⟩
theorem zf_Model_38 (hw : z_Wd w) : z_fld w "ThingStreamModel" 38 7 10 := ⟨zR7, zT7, 40, rfl, by decide, zu_7 hw, Or.inl (zw_701 hw)⟩
theorem zp_Model_38 (hw : z_Wd w) : z_fldP w "ThingStreamModel" 38 7 10 (.array .long) true := ⟨zR7, zT7, 40, zt7, rfl, by decide, zu_7 hw, Or.inl (zw_701 hw), zt7_ok, zn7, zt7_ok 10 (by decide), rfl, fun h => rfl⟩
theorem zf_Model_42 (hw : z_Wd w) : z_fld w "ThingStreamModel" 42 7 11 := ⟨zR7, zT7, 40, rfl, by decide, zu_7 hw, Or.inl (zw_702 hw)⟩
theorem zp_Model_42 (hw : z_Wd w) : z_fldP w "ThingStreamModel" 42 7 11 (.array .int) true := ⟨zR7, zT7, 40, zt7, rfl, by decide, zu_7 hw, Or.inl (zw_702 hw), zt7_ok, zn7, zt7_ok 11 (by decide), rfl, fun h => rfl⟩
theorem zf_Model_45 (hw : z_Wd w) : z_fld w "ThingStreamModel" 45 7 13 := ⟨zR7, zT7, 40, rfl, by decide, zu_7 hw, Or.inl (zw_704 hw)⟩
theorem zp_Model_45 (hw : z_Wd w) : z_fldP w "ThingStreamModel" 45 7 13 (.array .int) true := ⟨zR7, zT7, 40, zt7, rfl, by decide, zu_7 hw, Or.inl (zw_704 hw), zt7_ok, zn7, zt7_ok 13 (by decide), rfl, fun h => rfl⟩
theorem zf_Model_48 (hw : z_Wd w) : z_fld w "ThingStreamModel" 48 7 14 := ⟨zR7, zT7, 40, rfl, by decide, zu_7 hw, Or.inl (zw_705 hw)⟩
theorem zp_Model_48 (hw : z_Wd w) : z_fldP w "ThingStreamModel" 48 7 14 (.array .int) true := ⟨zR7, zT7, 40, zt7, rfl, by decide, zu_7 hw, Or.inl (zw_705 hw), zt7_ok, zn7, zt7_ok 14 (by decide), rfl, fun h => rfl⟩
theorem zf_Model_51 (hw : z_Wd w) : z_fld w "ThingStreamModel" 51 7 15 := ⟨zR7, zT7, 40, rfl, by decide, zu_7 hw, Or.inl (zw_706 hw)⟩
theorem zp_Model_51 (hw : z_Wd w) : z_fldP w "ThingStreamModel" 51 7 15 (.int) false := ⟨zR7, zT7, 40, zt7, rfl, by decide, zu_7 hw, Or.inl (zw_706 hw), zt7_ok, zn7, zt7_ok 15 (by decide), rfl, fun h => by cases h⟩
theorem zf_Model_55 (hw : z_Wd w) : z_fld w "ThingStreamModel" 55 7 17 := ⟨zR7, zT7, 40, rfl, by decide, zu_7 hw, Or.inl (zw_708 hw)⟩
theorem zp_Model_55 (hw : z_Wd w) : z_fldP w "ThingStreamModel" 55 7 17 (.array .int) true := ⟨zR7, zT7, 40, zt7, rfl, by decide, zu_7 hw, Or.inl (zw_708 hw), zt7_ok, zn7, zt7_ok 17 (by decide), rfl, fun h => rfl⟩
theorem zf_Model_58 (hw : z_Wd w) : z_fld w "ThingStreamModel" 58 7 18 := ⟨zR7, zT7, 40, rfl, by decide, zu_7 hw, Or.inl (zw_709 hw)⟩
theorem zp_Model_58 (hw : z_Wd w) : z_fldP w "ThingStreamModel" 58 7 18 (.array .int) true := ⟨zR7, zT7, 40, zt7, rfl, by decide, zu_7 hw, Or.inl (zw_709 hw), zt7_ok, zn7, zt7_ok 18 (by decide), rfl, fun h => rfl⟩
theorem zf_Model_61 (hw : z_Wd w) : z_fld w "ThingStreamModel" 61 7 19 := ⟨zR7, zT7, 40, rfl, by decide, zu_7 hw, Or.inl (zw_710 hw)⟩
theorem zp_Model_61 (hw : z_Wd w) : z_fldP w "ThingStreamModel" 61 7 19 (.array .int) true := ⟨zR7, zT7, 40, zt7, rfl, by decide, zu_7 hw, Or.inl (zw_710 hw), zt7_ok, zn7, zt7_ok 19 (by decide), rfl, fun h => rfl⟩
theorem zf_Model_64 (hw : z_Wd w) : z_fld w "ThingStreamModel" 64 7 21 := ⟨zR7, zT7, 40, rfl, by decide, zu_7 hw, Or.inl (zw_712 hw)⟩
theorem zp_Model_64 (hw : z_Wd w) : z_fldP w "ThingStreamModel" 64 7 21 (.array .int) true := ⟨zR7, zT7, 40, zt7, rfl, by decide, zu_7 hw, Or.inl (zw_712 hw), zt7_ok, zn7, zt7_ok 21 (by decide), rfl, fun h => rfl⟩
theorem zf_Model_67 (hw : z_Wd w) : z_fld w "ThingStreamModel" 67 7 22 := ⟨zR7, zT7, 40, rfl, by decide, zu_7 hw, Or.inl (zw_713 hw)⟩
theorem zp_Model_67 (hw : z_Wd w) : z_fldP w "ThingStreamModel" 67 7 22 (.array .int) true := ⟨zR7, zT7, 40, zt7, rfl, by decide, zu_7 hw, Or.inl (zw_713 hw), zt7_ok, zn7, zt7_ok 22 (by decide), rfl, fun h => rfl⟩
theorem zf_Model_70 (hw : z_Wd w) : z_fld w "ThingStreamModel" 70 7 26 := ⟨zR7, zT7, 40, rfl, by decide, zu_7 hw, Or.inl (zw_717 hw)⟩
theorem zp_Model_70 (hw : z_Wd w) : z_fldP w "ThingStreamModel" 70 7 26 (.array .int) true := ⟨zR7, zT7, 40, zt7, rfl, by decide, zu_7 hw, Or.inl (zw_717 hw), zt7_ok, zn7, zt7_ok 26 (by decide), rfl, fun h => rfl⟩
theorem zf_Model_73 (hw : z_Wd w) : z_fld w "ThingStreamModel" 73 7 27 := ⟨zR7, zT7, 40, rfl, by decide, zu_7 hw, Or.inl (zw_718 hw)⟩
theorem zp_Model_73 (hw : z_Wd w) : z_fldP w "ThingStreamModel" 73 7 27 (.array .int) true := ⟨zR7, zT7, 40, zt7, rfl, by decide, zu_7 hw, Or.inl (zw_718 hw), zt7_ok, zn7, zt7_ok 27 (by decide), rfl, fun h => rfl⟩
theorem zf_Model_76 (hw : z_Wd w) : z_fld w "ThingStreamModel" 76 7 28 := ⟨zR7, zT7, 40, rfl, by decide, zu_7 hw, Or.inl (zw_719 hw)⟩
theorem zp_Model_76 (hw : z_Wd w) : z_fldP w "ThingStreamModel" 76 7 28 (.array .int) true := ⟨zR7, zT7, 40, zt7, rfl, by decide, zu_7 hw, Or.inl (zw_719 hw), zt7_ok, zn7, zt7_ok 28 (by decide), rfl, fun h => rfl⟩
theorem zf_Model_79 (hw : z_Wd w) : z_fld w "ThingStreamModel" 79 7 29 := ⟨zR7, zT7, 40, rfl, by decide, zu_7 hw, Or.inl (zw_720 hw)⟩
theorem zp_Model_79 (hw : z_Wd w) : z_fldP w "ThingStreamModel" 79 7 29 (.array .int) true := ⟨zR7, zT7, 40, zt7, rfl, by decide, zu_7 hw, Or.inl (zw_720 hw), zt7_ok, zn7, zt7_ok 29 (by decide), rfl, fun h => rfl⟩
theorem zf_Model_82 (hw : z_Wd w) : z_fld w "ThingStreamModel" 82 7 30 := ⟨zR7, zT7, 40, rfl, by decide, zu_7 hw, Or.inl (zw_721 hw)⟩
theorem zp_Model_82 (hw : z_Wd w) : z_fldP w "ThingStreamModel" 82 7 30 (.array .int) true := ⟨zR7, zT7, 40, zt7, rfl, by decide, zu_7 hw, Or.inl (zw_721 hw), zt7_ok, zn7, zt7_ok 30 (by decide), rfl, fun h => rfl⟩
theorem zf_Model_85 (hw : z_Wd w) : z_fld w "ThingStreamModel" 85 7 31 := ⟨zR7, zT7, 40, rfl, by decide, zu_7 hw, Or.inl (zw_722 hw)⟩
theorem zp_Model_85 (hw : z_Wd w) : z_fldP w "ThingStreamModel" 85 7 31 (.array .int) true := ⟨zR7, zT7, 40, zt7, rfl, by decide, zu_7 hw, Or.inl (zw_722 hw), zt7_ok, zn7, zt7_ok 31 (by decide), rfl, fun h => rfl⟩
theorem zf_Model_88 (hw : z_Wd w) : z_fld w "ThingStreamModel" 88 7 32 := ⟨zR7, zT7, 40, rfl, by decide, zu_7 hw, Or.inl (zw_723 hw)⟩
theorem zp_Model_88 (hw : z_Wd w) : z_fldP w "ThingStreamModel" 88 7 32 (.array .int) true := ⟨zR7, zT7, 40, zt7, rfl, by decide, zu_7 hw, Or.inl (zw_723 hw), zt7_ok, zn7, zt7_ok 32 (by decide), rfl, fun h => rfl⟩
theorem zf_Model_91 (hw : z_Wd w) : z_fld w "ThingStreamModel" 91 7 34 := ⟨zR7, zT7, 40, rfl, by decide, zu_7 hw, Or.inl (zw_725 hw)⟩
theorem zp_Model_91 (hw : z_Wd w) : z_fldP w "ThingStreamModel" 91 7 34 (.array .int) true := ⟨zR7, zT7, 40, zt7, rfl, by decide, zu_7 hw, Or.inl (zw_725 hw), zt7_ok, zn7, zt7_ok 34 (by decide), rfl, fun h => rfl⟩
theorem zf_Model_94 (hw : z_Wd w) : z_fld w "ThingStreamModel" 94 7 35 := ⟨zR7, zT7, 40, rfl, by decide, zu_7 hw, Or.inl (zw_726 hw)⟩
theorem zp_Model_94 (hw : z_Wd w) : z_fldP w "ThingStreamModel" 94 7 35 (.array .int) true := ⟨zR7, zT7, 40, zt7, rfl, by decide, zu_7 hw, Or.inl (zw_726 hw), zt7_ok, zn7, zt7_ok 35 (by decide), rfl, fun h => rfl⟩
theorem zf_Model_97 (hw : z_Wd w) : z_fld w "ThingStreamModel" 97 7 36 := ⟨zR7, zT7, 40, rfl, by decide, zu_7 hw, Or.inl (zw_727 hw)⟩
theorem zp_Model_97 (hw : z_Wd w) : z_fldP w "ThingStreamModel" 97 7 36 (.array .long) true := ⟨zR7, zT7, 40, zt7, rfl, by decide, zu_7 hw, Or.inl (zw_727 hw), zt7_ok, zn7, zt7_ok 36 (by decide), rfl, fun h => rfl⟩
theorem zf_Model_100 (hw : z_Wd w) : z_fld w "ThingStreamModel" 100 7 37 := ⟨zR7, zT7, 40, rfl, by decide, zu_7 hw, Or.inl (zw_728 hw)⟩
theorem zp_Model_100 (hw : z_Wd w) : z_fldP w "ThingStreamModel" 100 7 37 (.array .int) true := ⟨zR7, zT7, 40, zt7, rfl, by decide, zu_7 hw, Or.inl (zw_728 hw), zt7_ok, zn7, zt7_ok 37 (by decide), rfl, fun h => rfl⟩
theorem zf_Model_103 (hw : z_Wd w) : z_fld w "ThingStreamModel" 103 7 38 := ⟨zR7, zT7, 40, rfl, by decide, zu_7 hw, Or.inl (zw_729 hw)⟩
theorem zp_Model_103 (hw : z_Wd w) : z_fldP w "ThingStreamModel" 103 7 38 (.array .int) true := ⟨zR7, zT7, 40, zt7, rfl, by decide, zu_7 hw, Or.inl (zw_729 hw), zt7_ok, zn7, zt7_ok 38 (by decide), rfl, fun h => rfl⟩
theorem zf_Model_106 (hw : z_Wd w) : z_fld w "ThingStreamModel" 106 7 0 := ⟨zR7, zT7, 40, rfl, by decide, zu_7 hw, Or.inl (zw_691 hw)⟩
theorem zp_Model_106 (hw : z_Wd w) : z_fldP w "ThingStreamModel" 106 7 0 (.int) false := ⟨zR7, zT7, 40, zt7, rfl, by decide, zu_7 hw, Or.inl (zw_691 hw), zt7_ok, zn7, zt7_ok 0 (by decide), rfl, fun h => by cases h⟩
theorem zf_Model_144 (hw : z_Wd w) : z_fld w "ThingStreamModel" 144 7 12 := ⟨zR7, zT7, 40, rfl, by decide, zu_7 hw, Or.inl (zw_703 hw)⟩
theorem zp_Model_144 (hw : z_Wd w) : z_fldP w "ThingStreamModel" 144 7 12 (.int) false := ⟨zR7, zT7, 40, zt7, rfl, by decide, zu_7 hw, Or.inl (zw_703 hw), zt7_ok, zn7, zt7_ok 12 (by decide), rfl, fun h => by cases h⟩
theorem zf_Model_160 (hw : z_Wd w) : z_fld w "ThingStreamModel" 160 7 16 := ⟨zR7, zT7, 40, rfl, by decide, zu_7 hw, Or.inl (zw_707 hw)⟩
theorem zp_Model_160 (hw : z_Wd w) : z_fldP w "ThingStreamModel" 160 7 16 (.int) false := ⟨zR7, zT7, 40, zt7, rfl, by decide, zu_7 hw, Or.inl (zw_707 hw), zt7_ok, zn7, zt7_ok 16 (by decide), rfl, fun h => by cases h⟩
theorem zf_Model_166 (hw : z_Wd w) : z_fld w "ThingStreamModel" 166 7 20 := ⟨zR7, zT7, 40, rfl, by decide, zu_7 hw, Or.inl (zw_711 hw)⟩
theorem zp_Model_166 (hw : z_Wd w) : z_fldP w "ThingStreamModel" 166 7 20 (.int) false := ⟨zR7, zT7, 40, zt7, rfl, by decide, zu_7 hw, Or.inl (zw_711 hw), zt7_ok, zn7, zt7_ok 20 (by decide), rfl, fun h => by cases h⟩
theorem zf_Model_178 (hw : z_Wd w) : z_fld w "ThingStreamModel" 178 7 24 := ⟨zR7, zT7, 40, rfl, by decide, zu_7 hw, Or.inl (zw_715 hw)⟩
theorem zp_Model_178 (hw : z_Wd w) : z_fldP w "ThingStreamModel" 178 7 24 (.int) false := ⟨zR7, zT7, 40, zt7, rfl, by decide, zu_7 hw, Or.inl (zw_715 hw), zt7_ok, zn7, zt7_ok 24 (by decide), rfl, fun h => by cases h⟩
theorem zf_Model_181 (hw : z_Wd w) : z_fld w "ThingStreamModel" 181 7 23 := ⟨zR7, zT7, 40, rfl, by decide, zu_7 hw, Or.inl (zw_714 hw)⟩
theorem zp_Model_181 (hw : z_Wd w) : z_fldP w "ThingStreamModel" 181 7 23 (.int) false := ⟨zR7, zT7, 40, zt7, rfl, by decide, zu_7 hw, Or.inl (zw_714 hw), zt7_ok, zn7, zt7_ok 23 (by decide), rfl, fun h => by cases h⟩
theorem zf_Model_202 (hw : z_Wd w) : z_fld w "ThingStreamModel" 202 7 39 := ⟨zR7, zT7, 40, rfl, by decide, zu_7 hw, Or.inl (zw_730 hw)⟩
theorem zp_Model_202 (hw : z_Wd w) : z_fldP w "ThingStreamModel" 202 7 39 (.int) false := ⟨zR7, zT7, 40, zt7, rfl, by decide, zu_7 hw, Or.inl (zw_730 hw), zt7_ok, zn7, zt7_ok 39 (by decide), rfl, fun h => by cases h⟩
theorem zf_Model_205 (hw : z_Wd w) : z_fld w "ThingStreamModel" 205 7 25 := ⟨zR7, zT7, 40, rfl, by decide, zu_7 hw, Or.inl (zw_716 hw)⟩
theorem zp_Model_205 (hw : z_Wd w) : z_fldP w "ThingStreamModel" 205 7 25 (.int) false := ⟨zR7, zT7, 40, zt7, rfl, by decide, zu_7 hw, Or.inl (zw_716 hw), zt7_ok, zn7, zt7_ok 25 (by decide), rfl, fun h => by cases h⟩
theorem zf_Model_218 (hw : z_Wd w) : z_fld w "ThingStreamModel" 218 7 33 := ⟨zR7, zT7, 40, rfl, by decide, zu_7 hw, Or.inl (zw_724 hw)⟩
theorem zp_Model_218 (hw : z_Wd w) : z_fldP w "ThingStreamModel" 218 7 33 (.int) false := ⟨zR7, zT7, 40, zt7, rfl, by decide, zu_7 hw, Or.inl (zw_724 hw), zt7_ok, zn7, zt7_ok 33 (by decide), rfl, fun h => by cases h⟩
theorem zN_TS_9 (hw : z_Wd w) : z_newF w "ThingStream" 9 3 2 [.null, .null] := ⟨zR3, zT3, zt3, rfl, zu_3 hw, hw.2.1 _ (z_mem 24 (by decide +kernel)) rfl, hw.2.1 _ (z_mem 25 (by decide +kernel)) rfl, hw.2.1 _ (z_mem 2 (by decide +kernel)) rfl, zt3_ok, by decide +kernel, fun _ => rfl, z_okd rfl⟩
theorem zN_TS_21 (hw : z_Wd w) : z_newF w "ThingStream" 21 0 3 [.null, .int 0, .int 0] := ⟨zR0, zT0, zt0, rfl, zu_0 hw, hw.2.1 _ (z_mem 110 (by decide +kernel)) rfl, hw.2.1 _ (z_mem 111 (by decide +kernel)) rfl, hw.2.1 _ (z_mem 5 (by decide +kernel)) rfl, zt0_ok, by decide +kernel, fun _ => rfl, z_okd rfl⟩
theorem zN_TS_28 (hw : z_Wd w) : z_newF w "ThingStream" 28 5 5 [.null, .null, .null, .null, .int 0] := ⟨zR5, zT5, zt5, rfl, zu_5 hw, hw.2.1 _ (z_mem 131 (by decide +kernel)) rfl, hw.2.1 _ (z_mem 132 (by decide +kernel)) rfl, hw.2.1 _ (z_mem 6 (by decide +kernel)) rfl, zt5_ok, by decide +kernel, fun _ => rfl, z_okd rfl⟩
theorem zN_TS_37 (hw : z_Wd w) : z_newF w "ThingStream" 37 1 11 [.null, .null, .null, .null, .null, .null, .null, .int 0, .int 0, .int 0, .int 0] := ⟨zR1, zT1, zt1, rfl, zu_1 hw, hw.2.1 _ (z_mem 153 (by decide +kernel)) rfl, hw.2.1 _ (z_mem 154 (by decide +kernel)) rfl, hw.2.1 _ (z_mem 7 (by decide +kernel)) rfl, zt1_ok, by decide +kernel, fun _ => rfl, z_okd rfl⟩
theorem zN_Reader_31 (hw : z_Wd w) : z_newF w "ThingStream$Reader" 31 2 7 [.null, .null, .null, .null, .null, .null, .null] := ⟨zR2, zT2, zt2, rfl, zu_2 hw, hw.2.1 _ (z_mem 168 (by decide +kernel)) rfl, hw.2.1 _ (z_mem 31 (by decide +kernel)) rfl, hw.2.1 _ (z_mem 3 (by decide +kernel)) rfl, zt2_ok, by decide +kernel, fun _ => rfl, z_okd rfl⟩
theorem zN_Reader_46 (hw : z_Wd w) : z_newF w "ThingStream$Reader" 46 4 4 [.null, .null, .null, .int 0] := ⟨zR4, zT4, zt4, rfl, zu_4 hw, hw.2.1 _ (z_mem 170 (by decide +kernel)) rfl, hw.2.1 _ (z_mem 68 (by decide +kernel)) rfl, hw.2.1 _ (z_mem 4 (by decide +kernel)) rfl, zt4_ok, by decide +kernel, fun _ => rfl, z_okd rfl⟩
theorem zN_Side_9 (hw : z_Wd w) : z_newF w "ThingStream$Side" 9 2 7 [.null, .null, .null, .null, .null, .null, .null] := ⟨zR2, zT2, zt2, rfl, zu_2 hw, hw.2.1 _ (z_mem 30 (by decide +kernel)) rfl, hw.2.1 _ (z_mem 31 (by decide +kernel)) rfl, hw.2.1 _ (z_mem 3 (by decide +kernel)) rfl, zt2_ok, by decide +kernel, fun _ => rfl, z_okd rfl⟩
theorem zN_Side_20 (hw : z_Wd w) : z_newF w "ThingStream$Side" 20 4 4 [.null, .null, .null, .int 0] := ⟨zR4, zT4, zt4, rfl, zu_4 hw, hw.2.1 _ (z_mem 67 (by decide +kernel)) rfl, hw.2.1 _ (z_mem 68 (by decide +kernel)) rfl, hw.2.1 _ (z_mem 4 (by decide +kernel)) rfl, zt4_ok, by decide +kernel, fun _ => rfl, z_okd rfl⟩
theorem zN_Law_8 (hw : z_Wd w) : z_newF w "ThingStreamLaw" 8 6 5 [.null, .null, .null, .null, .null] := ⟨zR6, zT6, zt6, rfl, zu_6 hw, hw.2.1 _ (z_mem 16 (by decide +kernel)) rfl, hw.2.1 _ (z_mem 17 (by decide +kernel)) rfl, hw.2.1 _ (z_mem 1 (by decide +kernel)) rfl, zt6_ok, by decide +kernel, fun _ => rfl, z_okd rfl⟩
theorem zN_Law_20 (hw : z_Wd w) : z_newF w "ThingStreamLaw" 20 7 40 [.int 0, .null, .null, .null, .null, .null, .null, .null, .null, .null, .null, .null, .int 0, .null, .null, .int 0, .int 0, .null, .null, .null, .int 0, .null, .null, .int 0, .int 0, .int 0, .null, .null, .null, .null, .null, .null, .null, .int 0, .null, .null, .null, .null, .null, .int 0] := ⟨zR7, zT7, zt7, rfl, zu_7 hw, hw.2.1 _ (z_mem 685 (by decide +kernel)) rfl, hw.2.1 _ (z_mem 686 (by decide +kernel)) rfl, hw.2.1 _ (z_mem 8 (by decide +kernel)) rfl, zt7_ok, by decide +kernel, fun _ => rfl, z_okd rfl⟩
end ZL
