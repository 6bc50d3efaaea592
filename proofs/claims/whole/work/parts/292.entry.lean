/-! what holds at the law's entry -/
theorem tb_t1 {w : Cond} (i : Nat) (h : tables_1_1[i]? = some w) : w ∈ lw_tbl := by
  have hm := List.mem_of_getElem? h
  exact List.mem_append_right _ (by unfold tables_1; exact List.mem_append_left _ (hm))
theorem tb_t2 {w : Cond} (i : Nat) (h : tables_1_2[i]? = some w) : w ∈ lw_tbl := by
  have hm := List.mem_of_getElem? h
  exact List.mem_append_right _ (by unfold tables_1; exact List.mem_append_right _ (List.mem_append_left _ (hm)))
theorem tb_t3 {w : Cond} (i : Nat) (h : tables_1_3[i]? = some w) : w ∈ lw_tbl := by
  have hm := List.mem_of_getElem? h
  exact List.mem_append_right _ (by unfold tables_1; exact List.mem_append_right _ (List.mem_append_right _ (List.mem_append_left _ (hm))))
theorem tb_t4 {w : Cond} (i : Nat) (h : tables_1_4[i]? = some w) : w ∈ lw_tbl := by
  have hm := List.mem_of_getElem? h
  exact List.mem_append_right _ (by unfold tables_1; exact List.mem_append_right _ (List.mem_append_right _ (List.mem_append_right _ (List.mem_append_left _ (hm)))))
theorem tb_t5 {w : Cond} (i : Nat) (h : tables_1_5[i]? = some w) : w ∈ lw_tbl := by
  have hm := List.mem_of_getElem? h
  exact List.mem_append_right _ (by unfold tables_1; exact List.mem_append_right _ (List.mem_append_right _ (List.mem_append_right _ (List.mem_append_right _ (List.mem_append_left _ (hm))))))
theorem tb_t6 {w : Cond} (i : Nat) (h : tables_1_6[i]? = some w) : w ∈ lw_tbl := by
  have hm := List.mem_of_getElem? h
  exact List.mem_append_right _ (by unfold tables_1; exact List.mem_append_right _ (List.mem_append_right _ (List.mem_append_right _ (List.mem_append_right _ (List.mem_append_right _ (List.mem_append_left _ (hm)))))))
theorem tb_t7 {w : Cond} (i : Nat) (h : tables_1_7[i]? = some w) : w ∈ lw_tbl := by
  have hm := List.mem_of_getElem? h
  exact List.mem_append_right _ (by unfold tables_1; exact List.mem_append_right _ (List.mem_append_right _ (List.mem_append_right _ (List.mem_append_right _ (List.mem_append_right _ (List.mem_append_right _ (hm)))))))
def nrl : List Cond := flatC (Jvm.Cond.and given_1 narrow_1)
theorem nr_0 : Cond.exactly (Term.string "GuardRoster$CommandText" (53 : Nat)) "java/lang/String" ∈ nrl := List.mem_of_getElem? (i := 622) (by decide +kernel)
theorem nr_1 : Cond.exactly (Term.string "GuardRoster$CommandText" (55 : Nat)) "java/lang/String" ∈ nrl := List.mem_of_getElem? (i := 632) (by decide +kernel)
theorem nr_2 : Cond.exactly (Term.string "GuardRoster$CommandText" (57 : Nat)) "java/lang/String" ∈ nrl := List.mem_of_getElem? (i := 643) (by decide +kernel)
theorem nr_3 : Cond.exactly (Term.string "GuardRoster$CommandText" (59 : Nat)) "java/lang/String" ∈ nrl := List.mem_of_getElem? (i := 657) (by decide +kernel)
theorem nr_4 : Cond.exactly (Term.string "GuardRoster$CommandText" (61 : Nat)) "java/lang/String" ∈ nrl := List.mem_of_getElem? (i := 669) (by decide +kernel)
theorem nr_5 : Cond.exactly (Term.string "GuardRoster$CommandText" (63 : Nat)) "java/lang/String" ∈ nrl := List.mem_of_getElem? (i := 684) (by decide +kernel)
theorem nr_6 : Cond.exactly (Term.string "GuardRoster$CommandText" (65 : Nat)) "java/lang/String" ∈ nrl := List.mem_of_getElem? (i := 694) (by decide +kernel)
theorem nr_7 : Cond.exactly (Term.string "GuardRoster$CommandText" (67 : Nat)) "java/lang/String" ∈ nrl := List.mem_of_getElem? (i := 704) (by decide +kernel)
theorem nr_8 : Cond.exactly (Term.string "GuardRosterModel" (183 : Nat)) "java/lang/String" ∈ nrl := List.mem_of_getElem? (i := 869) (by decide +kernel)
theorem nr_9 : Cond.exactly (Term.string "GuardRosterModel" (192 : Nat)) "java/lang/String" ∈ nrl := List.mem_of_getElem? (i := 875) (by decide +kernel)
theorem nr_10 : Cond.exactly (Term.string "GuardRosterModel" (194 : Nat)) "java/lang/String" ∈ nrl := List.mem_of_getElem? (i := 882) (by decide +kernel)
theorem nr_11 : Cond.exactly (Term.string "GuardRosterModel" (196 : Nat)) "java/lang/String" ∈ nrl := List.mem_of_getElem? (i := 888) (by decide +kernel)
theorem nr_12 : Cond.exactly (Term.string "GuardRosterModel" (198 : Nat)) "java/lang/String" ∈ nrl := List.mem_of_getElem? (i := 894) (by decide +kernel)
theorem nr_13 : Cond.exactly (Term.string "GuardRosterModel" (206 : Nat)) "java/lang/String" ∈ nrl := List.mem_of_getElem? (i := 900) (by decide +kernel)
theorem nr_14 : Cond.exactly (Term.string "GuardRosterModel" (208 : Nat)) "java/lang/String" ∈ nrl := List.mem_of_getElem? (i := 907) (by decide +kernel)
theorem nr_15 : Cond.exactly (Term.string "GuardRosterModel" (210 : Nat)) "java/lang/String" ∈ nrl := List.mem_of_getElem? (i := 915) (by decide +kernel)
theorem nr_16 : Cond.exactly (Term.string "GuardRoster" (369 : Nat)) "java/lang/String" ∈ nrl := List.mem_of_getElem? (i := 82) (by decide +kernel)
theorem nr_17 : Cond.exactly (Term.string "GuardRoster" (120 : Nat)) "java/lang/String" ∈ nrl := List.mem_of_getElem? (i := 107) (by decide +kernel)
theorem nr_18 : Cond.exactly (Term.string "GuardRoster" (359 : Nat)) "java/lang/String" ∈ nrl := List.mem_of_getElem? (i := 147) (by decide +kernel)
theorem nr_19 : Cond.exactly (Term.string "GuardRoster" (361 : Nat)) "java/lang/String" ∈ nrl := List.mem_of_getElem? (i := 178) (by decide +kernel)
theorem nr_20 : Cond.exactly (Term.string "GuardRoster" (363 : Nat)) "java/lang/String" ∈ nrl := List.mem_of_getElem? (i := 216) (by decide +kernel)
theorem nr_21 : Cond.exactly (Term.string "GuardRoster" (365 : Nat)) "java/lang/String" ∈ nrl := List.mem_of_getElem? (i := 241) (by decide +kernel)
theorem nr_22 : Cond.exactly (Term.string "GuardRoster" (86 : Nat)) "java/lang/String" ∈ nrl := List.mem_of_getElem? (i := 258) (by decide +kernel)
theorem nr_23 : Cond.exactly (Term.string "GuardRoster" (367 : Nat)) "java/lang/String" ∈ nrl := List.mem_of_getElem? (i := 283) (by decide +kernel)
theorem nr_24 : Cond.exactly (Term.string "GuardRoster" (145 : Nat)) "java/lang/String" ∈ nrl := List.mem_of_getElem? (i := 309) (by decide +kernel)
theorem nr_25 : Cond.exactly (Term.string "GuardRoster" (149 : Nat)) "java/lang/String" ∈ nrl := List.mem_of_getElem? (i := 342) (by decide +kernel)
theorem nr_26 : Cond.exactly (Term.string "GuardRoster" (159 : Nat)) "java/lang/String" ∈ nrl := List.mem_of_getElem? (i := 362) (by decide +kernel)
theorem nr_27 : Cond.exactly (Term.string "GuardRoster" (189 : Nat)) "java/lang/String" ∈ nrl := List.mem_of_getElem? (i := 399) (by decide +kernel)
theorem nr_28 : Cond.exactly (Term.string "GuardRoster" (194 : Nat)) "java/lang/String" ∈ nrl := List.mem_of_getElem? (i := 429) (by decide +kernel)
theorem nr_29 : Cond.exactly (Term.string "GuardRoster" (209 : Nat)) "java/lang/String" ∈ nrl := List.mem_of_getElem? (i := 455) (by decide +kernel)
theorem nr_30 : Cond.exactly (Term.string "GuardRoster" (371 : Nat)) "java/lang/String" ∈ nrl := List.mem_of_getElem? (i := 496) (by decide +kernel)
theorem nr_31 : Cond.exactly (Term.string "GuardRoster" (248 : Nat)) "java/lang/String" ∈ nrl := List.mem_of_getElem? (i := 519) (by decide +kernel)
theorem nr_32 : Cond.exactly (Term.string "GuardRoster" (251 : Nat)) "java/lang/String" ∈ nrl := List.mem_of_getElem? (i := 542) (by decide +kernel)
theorem nr_33 : Cond.exactly (Term.string "GuardRoster" (267 : Nat)) "java/lang/String" ∈ nrl := List.mem_of_getElem? (i := 564) (by decide +kernel)
theorem nr_34 : Cond.exactly (Term.string "GuardRoster" (290 : Nat)) "java/lang/String" ∈ nrl := List.mem_of_getElem? (i := 594) (by decide +kernel)
theorem nr_35 : Cond.exactly (Term.string "GuardRoster" (308 : Nat)) "java/lang/String" ∈ nrl := List.mem_of_getElem? (i := 714) (by decide +kernel)
theorem nr_36 : Cond.exactly (Term.string "GuardRoster" (325 : Nat)) "java/lang/String" ∈ nrl := List.mem_of_getElem? (i := 739) (by decide +kernel)
theorem nr_37 : Cond.exactly (Term.string "GuardRoster" (331 : Nat)) "java/lang/String" ∈ nrl := List.mem_of_getElem? (i := 758) (by decide +kernel)
theorem nr_38 : Cond.exactly (Term.string "GuardRoster" (333 : Nat)) "java/lang/String" ∈ nrl := List.mem_of_getElem? (i := 788) (by decide +kernel)
theorem nr_39 : Cond.exactly (Term.string "GuardRoster" (338 : Nat)) "java/lang/String" ∈ nrl := List.mem_of_getElem? (i := 818) (by decide +kernel)
theorem nr_40 : Cond.exactly (Term.string "GuardRoster" (351 : Nat)) "java/lang/String" ∈ nrl := List.mem_of_getElem? (i := 848) (by decide +kernel)
theorem nr_41 : Cond.eq (Term.field (Term.string "GuardRoster$CommandText" (53 : Nat)) "java/lang/String" "coder" "B") (Term.int (0 : Int32)) ∈ nrl := List.mem_of_getElem? (i := 623) (by decide +kernel)
theorem nr_42 : Cond.eq (Term.field (Term.string "GuardRoster$CommandText" (55 : Nat)) "java/lang/String" "coder" "B") (Term.int (0 : Int32)) ∈ nrl := List.mem_of_getElem? (i := 633) (by decide +kernel)
theorem nr_43 : Cond.eq (Term.field (Term.string "GuardRoster$CommandText" (57 : Nat)) "java/lang/String" "coder" "B") (Term.int (0 : Int32)) ∈ nrl := List.mem_of_getElem? (i := 644) (by decide +kernel)
theorem nr_44 : Cond.eq (Term.field (Term.string "GuardRoster$CommandText" (59 : Nat)) "java/lang/String" "coder" "B") (Term.int (0 : Int32)) ∈ nrl := List.mem_of_getElem? (i := 658) (by decide +kernel)
theorem nr_45 : Cond.eq (Term.field (Term.string "GuardRoster$CommandText" (61 : Nat)) "java/lang/String" "coder" "B") (Term.int (0 : Int32)) ∈ nrl := List.mem_of_getElem? (i := 670) (by decide +kernel)
theorem nr_46 : Cond.eq (Term.field (Term.string "GuardRoster$CommandText" (63 : Nat)) "java/lang/String" "coder" "B") (Term.int (0 : Int32)) ∈ nrl := List.mem_of_getElem? (i := 685) (by decide +kernel)
theorem nr_47 : Cond.eq (Term.field (Term.string "GuardRoster$CommandText" (65 : Nat)) "java/lang/String" "coder" "B") (Term.int (0 : Int32)) ∈ nrl := List.mem_of_getElem? (i := 695) (by decide +kernel)
theorem nr_48 : Cond.eq (Term.field (Term.string "GuardRoster$CommandText" (67 : Nat)) "java/lang/String" "coder" "B") (Term.int (0 : Int32)) ∈ nrl := List.mem_of_getElem? (i := 705) (by decide +kernel)
theorem nr_49 : Cond.eq (Term.field (Term.string "GuardRosterModel" (183 : Nat)) "java/lang/String" "coder" "B") (Term.int (0 : Int32)) ∈ nrl := List.mem_of_getElem? (i := 870) (by decide +kernel)
theorem nr_50 : Cond.eq (Term.field (Term.string "GuardRosterModel" (192 : Nat)) "java/lang/String" "coder" "B") (Term.int (0 : Int32)) ∈ nrl := List.mem_of_getElem? (i := 876) (by decide +kernel)
theorem nr_51 : Cond.eq (Term.field (Term.string "GuardRosterModel" (194 : Nat)) "java/lang/String" "coder" "B") (Term.int (0 : Int32)) ∈ nrl := List.mem_of_getElem? (i := 883) (by decide +kernel)
theorem nr_52 : Cond.eq (Term.field (Term.string "GuardRosterModel" (196 : Nat)) "java/lang/String" "coder" "B") (Term.int (0 : Int32)) ∈ nrl := List.mem_of_getElem? (i := 889) (by decide +kernel)
theorem nr_53 : Cond.eq (Term.field (Term.string "GuardRosterModel" (198 : Nat)) "java/lang/String" "coder" "B") (Term.int (0 : Int32)) ∈ nrl := List.mem_of_getElem? (i := 895) (by decide +kernel)
theorem nr_54 : Cond.eq (Term.field (Term.string "GuardRosterModel" (206 : Nat)) "java/lang/String" "coder" "B") (Term.int (0 : Int32)) ∈ nrl := List.mem_of_getElem? (i := 901) (by decide +kernel)
theorem nr_55 : Cond.eq (Term.field (Term.string "GuardRosterModel" (208 : Nat)) "java/lang/String" "coder" "B") (Term.int (0 : Int32)) ∈ nrl := List.mem_of_getElem? (i := 908) (by decide +kernel)
theorem nr_56 : Cond.eq (Term.field (Term.string "GuardRosterModel" (210 : Nat)) "java/lang/String" "coder" "B") (Term.int (0 : Int32)) ∈ nrl := List.mem_of_getElem? (i := 916) (by decide +kernel)
theorem nr_57 : Cond.arrayOf (Term.field (Term.string "GuardRoster$CommandText" (53 : Nat)) "java/lang/String" "value" "[B") FieldType.byte ∈ nrl := List.mem_of_getElem? (i := 624) (by decide +kernel)
theorem nr_58 : Cond.arrayOf (Term.field (Term.string "GuardRoster$CommandText" (55 : Nat)) "java/lang/String" "value" "[B") FieldType.byte ∈ nrl := List.mem_of_getElem? (i := 634) (by decide +kernel)
theorem nr_59 : Cond.arrayOf (Term.field (Term.string "GuardRoster$CommandText" (57 : Nat)) "java/lang/String" "value" "[B") FieldType.byte ∈ nrl := List.mem_of_getElem? (i := 645) (by decide +kernel)
theorem nr_60 : Cond.arrayOf (Term.field (Term.string "GuardRoster$CommandText" (59 : Nat)) "java/lang/String" "value" "[B") FieldType.byte ∈ nrl := List.mem_of_getElem? (i := 659) (by decide +kernel)
theorem nr_61 : Cond.arrayOf (Term.field (Term.string "GuardRoster$CommandText" (61 : Nat)) "java/lang/String" "value" "[B") FieldType.byte ∈ nrl := List.mem_of_getElem? (i := 671) (by decide +kernel)
theorem nr_62 : Cond.arrayOf (Term.field (Term.string "GuardRoster$CommandText" (63 : Nat)) "java/lang/String" "value" "[B") FieldType.byte ∈ nrl := List.mem_of_getElem? (i := 686) (by decide +kernel)
theorem nr_63 : Cond.arrayOf (Term.field (Term.string "GuardRoster$CommandText" (65 : Nat)) "java/lang/String" "value" "[B") FieldType.byte ∈ nrl := List.mem_of_getElem? (i := 696) (by decide +kernel)
theorem nr_64 : Cond.arrayOf (Term.field (Term.string "GuardRoster$CommandText" (67 : Nat)) "java/lang/String" "value" "[B") FieldType.byte ∈ nrl := List.mem_of_getElem? (i := 706) (by decide +kernel)
theorem nr_65 : Cond.arrayOf (Term.field (Term.string "GuardRosterModel" (183 : Nat)) "java/lang/String" "value" "[B") FieldType.byte ∈ nrl := List.mem_of_getElem? (i := 871) (by decide +kernel)
theorem nr_66 : Cond.arrayOf (Term.field (Term.string "GuardRosterModel" (192 : Nat)) "java/lang/String" "value" "[B") FieldType.byte ∈ nrl := List.mem_of_getElem? (i := 877) (by decide +kernel)
theorem nr_67 : Cond.arrayOf (Term.field (Term.string "GuardRosterModel" (194 : Nat)) "java/lang/String" "value" "[B") FieldType.byte ∈ nrl := List.mem_of_getElem? (i := 884) (by decide +kernel)
theorem nr_68 : Cond.arrayOf (Term.field (Term.string "GuardRosterModel" (196 : Nat)) "java/lang/String" "value" "[B") FieldType.byte ∈ nrl := List.mem_of_getElem? (i := 890) (by decide +kernel)
theorem nr_69 : Cond.arrayOf (Term.field (Term.string "GuardRosterModel" (198 : Nat)) "java/lang/String" "value" "[B") FieldType.byte ∈ nrl := List.mem_of_getElem? (i := 896) (by decide +kernel)
theorem nr_70 : Cond.arrayOf (Term.field (Term.string "GuardRosterModel" (206 : Nat)) "java/lang/String" "value" "[B") FieldType.byte ∈ nrl := List.mem_of_getElem? (i := 902) (by decide +kernel)
theorem nr_71 : Cond.arrayOf (Term.field (Term.string "GuardRosterModel" (208 : Nat)) "java/lang/String" "value" "[B") FieldType.byte ∈ nrl := List.mem_of_getElem? (i := 909) (by decide +kernel)
theorem nr_72 : Cond.arrayOf (Term.field (Term.string "GuardRosterModel" (210 : Nat)) "java/lang/String" "value" "[B") FieldType.byte ∈ nrl := List.mem_of_getElem? (i := 917) (by decide +kernel)
theorem nr_73 : Cond.eq (Term.length (Term.field (Term.string "GuardRoster$CommandText" (53 : Nat)) "java/lang/String" "value" "[B")) (Term.int (6 : Int32)) ∈ nrl := List.mem_of_getElem? (i := 625) (by decide +kernel)
theorem nr_74 : Cond.eq (Term.length (Term.field (Term.string "GuardRoster$CommandText" (55 : Nat)) "java/lang/String" "value" "[B")) (Term.int (7 : Int32)) ∈ nrl := List.mem_of_getElem? (i := 635) (by decide +kernel)
theorem nr_75 : Cond.eq (Term.length (Term.field (Term.string "GuardRoster$CommandText" (57 : Nat)) "java/lang/String" "value" "[B")) (Term.int (10 : Int32)) ∈ nrl := List.mem_of_getElem? (i := 646) (by decide +kernel)
theorem nr_76 : Cond.eq (Term.length (Term.field (Term.string "GuardRoster$CommandText" (59 : Nat)) "java/lang/String" "value" "[B")) (Term.int (8 : Int32)) ∈ nrl := List.mem_of_getElem? (i := 660) (by decide +kernel)
theorem nr_77 : Cond.eq (Term.length (Term.field (Term.string "GuardRoster$CommandText" (61 : Nat)) "java/lang/String" "value" "[B")) (Term.int (11 : Int32)) ∈ nrl := List.mem_of_getElem? (i := 672) (by decide +kernel)
theorem nr_78 : Cond.eq (Term.length (Term.field (Term.string "GuardRoster$CommandText" (63 : Nat)) "java/lang/String" "value" "[B")) (Term.int (6 : Int32)) ∈ nrl := List.mem_of_getElem? (i := 687) (by decide +kernel)
theorem nr_79 : Cond.eq (Term.length (Term.field (Term.string "GuardRoster$CommandText" (65 : Nat)) "java/lang/String" "value" "[B")) (Term.int (6 : Int32)) ∈ nrl := List.mem_of_getElem? (i := 697) (by decide +kernel)
theorem nr_80 : Cond.eq (Term.length (Term.field (Term.string "GuardRoster$CommandText" (67 : Nat)) "java/lang/String" "value" "[B")) (Term.int (6 : Int32)) ∈ nrl := List.mem_of_getElem? (i := 707) (by decide +kernel)
theorem nr_81 : Cond.eq (Term.length (Term.field (Term.string "GuardRosterModel" (183 : Nat)) "java/lang/String" "value" "[B")) (Term.int (2 : Int32)) ∈ nrl := List.mem_of_getElem? (i := 872) (by decide +kernel)
theorem nr_82 : Cond.eq (Term.length (Term.field (Term.string "GuardRosterModel" (192 : Nat)) "java/lang/String" "value" "[B")) (Term.int (3 : Int32)) ∈ nrl := List.mem_of_getElem? (i := 878) (by decide +kernel)
theorem nr_83 : Cond.eq (Term.length (Term.field (Term.string "GuardRosterModel" (194 : Nat)) "java/lang/String" "value" "[B")) (Term.int (2 : Int32)) ∈ nrl := List.mem_of_getElem? (i := 885) (by decide +kernel)
theorem nr_84 : Cond.eq (Term.length (Term.field (Term.string "GuardRosterModel" (196 : Nat)) "java/lang/String" "value" "[B")) (Term.int (2 : Int32)) ∈ nrl := List.mem_of_getElem? (i := 891) (by decide +kernel)
theorem nr_85 : Cond.eq (Term.length (Term.field (Term.string "GuardRosterModel" (198 : Nat)) "java/lang/String" "value" "[B")) (Term.int (2 : Int32)) ∈ nrl := List.mem_of_getElem? (i := 897) (by decide +kernel)
theorem nr_86 : Cond.eq (Term.length (Term.field (Term.string "GuardRosterModel" (206 : Nat)) "java/lang/String" "value" "[B")) (Term.int (3 : Int32)) ∈ nrl := List.mem_of_getElem? (i := 903) (by decide +kernel)
theorem nr_87 : Cond.eq (Term.length (Term.field (Term.string "GuardRosterModel" (208 : Nat)) "java/lang/String" "value" "[B")) (Term.int (4 : Int32)) ∈ nrl := List.mem_of_getElem? (i := 910) (by decide +kernel)
theorem nr_88 : Cond.eq (Term.length (Term.field (Term.string "GuardRosterModel" (210 : Nat)) "java/lang/String" "value" "[B")) (Term.int (3 : Int32)) ∈ nrl := List.mem_of_getElem? (i := 918) (by decide +kernel)
theorem nr_89 : Cond.eq (Term.elem (Term.field (Term.string "GuardRoster$CommandText" (53 : Nat)) "java/lang/String" "value" "[B") (Term.int (0 : Int32))) (Term.int (103 : Int32)) ∈ nrl := List.mem_of_getElem? (i := 626) (by decide +kernel)
theorem nr_90 : Cond.eq (Term.elem (Term.field (Term.string "GuardRoster$CommandText" (53 : Nat)) "java/lang/String" "value" "[B") (Term.int (1 : Int32))) (Term.int (97 : Int32)) ∈ nrl := List.mem_of_getElem? (i := 627) (by decide +kernel)
theorem nr_91 : Cond.eq (Term.elem (Term.field (Term.string "GuardRoster$CommandText" (53 : Nat)) "java/lang/String" "value" "[B") (Term.int (2 : Int32))) (Term.int (116 : Int32)) ∈ nrl := List.mem_of_getElem? (i := 628) (by decide +kernel)
theorem nr_92 : Cond.eq (Term.elem (Term.field (Term.string "GuardRoster$CommandText" (53 : Nat)) "java/lang/String" "value" "[B") (Term.int (3 : Int32))) (Term.int (101 : Int32)) ∈ nrl := List.mem_of_getElem? (i := 629) (by decide +kernel)
theorem nr_93 : Cond.eq (Term.elem (Term.field (Term.string "GuardRoster$CommandText" (53 : Nat)) "java/lang/String" "value" "[B") (Term.int (4 : Int32))) (Term.int (32 : Int32)) ∈ nrl := List.mem_of_getElem? (i := 630) (by decide +kernel)
theorem nr_94 : Cond.eq (Term.elem (Term.field (Term.string "GuardRoster$CommandText" (53 : Nat)) "java/lang/String" "value" "[B") (Term.int (5 : Int32))) (Term.int (35 : Int32)) ∈ nrl := List.mem_of_getElem? (i := 631) (by decide +kernel)
theorem nr_95 : Cond.eq (Term.elem (Term.field (Term.string "GuardRoster$CommandText" (55 : Nat)) "java/lang/String" "value" "[B") (Term.int (0 : Int32))) (Term.int (103 : Int32)) ∈ nrl := List.mem_of_getElem? (i := 636) (by decide +kernel)
theorem nr_96 : Cond.eq (Term.elem (Term.field (Term.string "GuardRoster$CommandText" (55 : Nat)) "java/lang/String" "value" "[B") (Term.int (1 : Int32))) (Term.int (117 : Int32)) ∈ nrl := List.mem_of_getElem? (i := 637) (by decide +kernel)
theorem nr_97 : Cond.eq (Term.elem (Term.field (Term.string "GuardRoster$CommandText" (55 : Nat)) "java/lang/String" "value" "[B") (Term.int (2 : Int32))) (Term.int (97 : Int32)) ∈ nrl := List.mem_of_getElem? (i := 638) (by decide +kernel)
theorem nr_98 : Cond.eq (Term.elem (Term.field (Term.string "GuardRoster$CommandText" (55 : Nat)) "java/lang/String" "value" "[B") (Term.int (3 : Int32))) (Term.int (114 : Int32)) ∈ nrl := List.mem_of_getElem? (i := 639) (by decide +kernel)
theorem nr_99 : Cond.eq (Term.elem (Term.field (Term.string "GuardRoster$CommandText" (55 : Nat)) "java/lang/String" "value" "[B") (Term.int (4 : Int32))) (Term.int (100 : Int32)) ∈ nrl := List.mem_of_getElem? (i := 640) (by decide +kernel)
theorem nr_100 : Cond.eq (Term.elem (Term.field (Term.string "GuardRoster$CommandText" (55 : Nat)) "java/lang/String" "value" "[B") (Term.int (5 : Int32))) (Term.int (32 : Int32)) ∈ nrl := List.mem_of_getElem? (i := 641) (by decide +kernel)
theorem nr_101 : Cond.eq (Term.elem (Term.field (Term.string "GuardRoster$CommandText" (55 : Nat)) "java/lang/String" "value" "[B") (Term.int (6 : Int32))) (Term.int (35 : Int32)) ∈ nrl := List.mem_of_getElem? (i := 642) (by decide +kernel)
theorem nr_102 : Cond.eq (Term.elem (Term.field (Term.string "GuardRoster$CommandText" (57 : Nat)) "java/lang/String" "value" "[B") (Term.int (0 : Int32))) (Term.int (100 : Int32)) ∈ nrl := List.mem_of_getElem? (i := 647) (by decide +kernel)
theorem nr_103 : Cond.eq (Term.elem (Term.field (Term.string "GuardRoster$CommandText" (57 : Nat)) "java/lang/String" "value" "[B") (Term.int (1 : Int32))) (Term.int (117 : Int32)) ∈ nrl := List.mem_of_getElem? (i := 648) (by decide +kernel)
theorem nr_104 : Cond.eq (Term.elem (Term.field (Term.string "GuardRoster$CommandText" (57 : Nat)) "java/lang/String" "value" "[B") (Term.int (2 : Int32))) (Term.int (116 : Int32)) ∈ nrl := List.mem_of_getElem? (i := 649) (by decide +kernel)
theorem nr_105 : Cond.eq (Term.elem (Term.field (Term.string "GuardRoster$CommandText" (57 : Nat)) "java/lang/String" "value" "[B") (Term.int (3 : Int32))) (Term.int (121 : Int32)) ∈ nrl := List.mem_of_getElem? (i := 650) (by decide +kernel)
theorem nr_106 : Cond.eq (Term.elem (Term.field (Term.string "GuardRoster$CommandText" (57 : Nat)) "java/lang/String" "value" "[B") (Term.int (4 : Int32))) (Term.int (32 : Int32)) ∈ nrl := List.mem_of_getElem? (i := 651) (by decide +kernel)
theorem nr_107 : Cond.eq (Term.elem (Term.field (Term.string "GuardRoster$CommandText" (57 : Nat)) "java/lang/String" "value" "[B") (Term.int (5 : Int32))) (Term.int (35 : Int32)) ∈ nrl := List.mem_of_getElem? (i := 652) (by decide +kernel)
theorem nr_108 : Cond.eq (Term.elem (Term.field (Term.string "GuardRoster$CommandText" (57 : Nat)) "java/lang/String" "value" "[B") (Term.int (6 : Int32))) (Term.int (64 : Int32)) ∈ nrl := List.mem_of_getElem? (i := 653) (by decide +kernel)
theorem nr_109 : Cond.eq (Term.elem (Term.field (Term.string "GuardRoster$CommandText" (57 : Nat)) "java/lang/String" "value" "[B") (Term.int (7 : Int32))) (Term.int (37 : Int32)) ∈ nrl := List.mem_of_getElem? (i := 654) (by decide +kernel)
theorem nr_110 : Cond.eq (Term.elem (Term.field (Term.string "GuardRoster$CommandText" (57 : Nat)) "java/lang/String" "value" "[B") (Term.int (8 : Int32))) (Term.int (61 : Int32)) ∈ nrl := List.mem_of_getElem? (i := 655) (by decide +kernel)
theorem nr_111 : Cond.eq (Term.elem (Term.field (Term.string "GuardRoster$CommandText" (57 : Nat)) "java/lang/String" "value" "[B") (Term.int (9 : Int32))) (Term.int (35 : Int32)) ∈ nrl := List.mem_of_getElem? (i := 656) (by decide +kernel)
theorem nr_112 : Cond.eq (Term.elem (Term.field (Term.string "GuardRoster$CommandText" (59 : Nat)) "java/lang/String" "value" "[B") (Term.int (0 : Int32))) (Term.int (102 : Int32)) ∈ nrl := List.mem_of_getElem? (i := 661) (by decide +kernel)
theorem nr_113 : Cond.eq (Term.elem (Term.field (Term.string "GuardRoster$CommandText" (59 : Nat)) "java/lang/String" "value" "[B") (Term.int (1 : Int32))) (Term.int (114 : Int32)) ∈ nrl := List.mem_of_getElem? (i := 662) (by decide +kernel)
theorem nr_114 : Cond.eq (Term.elem (Term.field (Term.string "GuardRoster$CommandText" (59 : Nat)) "java/lang/String" "value" "[B") (Term.int (2 : Int32))) (Term.int (101 : Int32)) ∈ nrl := List.mem_of_getElem? (i := 663) (by decide +kernel)
theorem nr_115 : Cond.eq (Term.elem (Term.field (Term.string "GuardRoster$CommandText" (59 : Nat)) "java/lang/String" "value" "[B") (Term.int (3 : Int32))) (Term.int (101 : Int32)) ∈ nrl := List.mem_of_getElem? (i := 664) (by decide +kernel)
theorem nr_116 : Cond.eq (Term.elem (Term.field (Term.string "GuardRoster$CommandText" (59 : Nat)) "java/lang/String" "value" "[B") (Term.int (4 : Int32))) (Term.int (32 : Int32)) ∈ nrl := List.mem_of_getElem? (i := 665) (by decide +kernel)
theorem nr_117 : Cond.eq (Term.elem (Term.field (Term.string "GuardRoster$CommandText" (59 : Nat)) "java/lang/String" "value" "[B") (Term.int (5 : Int32))) (Term.int (35 : Int32)) ∈ nrl := List.mem_of_getElem? (i := 666) (by decide +kernel)
theorem nr_118 : Cond.eq (Term.elem (Term.field (Term.string "GuardRoster$CommandText" (59 : Nat)) "java/lang/String" "value" "[B") (Term.int (6 : Int32))) (Term.int (64 : Int32)) ∈ nrl := List.mem_of_getElem? (i := 667) (by decide +kernel)
theorem nr_119 : Cond.eq (Term.elem (Term.field (Term.string "GuardRoster$CommandText" (59 : Nat)) "java/lang/String" "value" "[B") (Term.int (7 : Int32))) (Term.int (37 : Int32)) ∈ nrl := List.mem_of_getElem? (i := 668) (by decide +kernel)
theorem nr_120 : Cond.eq (Term.elem (Term.field (Term.string "GuardRoster$CommandText" (61 : Nat)) "java/lang/String" "value" "[B") (Term.int (0 : Int32))) (Term.int (108 : Int32)) ∈ nrl := List.mem_of_getElem? (i := 673) (by decide +kernel)
theorem nr_121 : Cond.eq (Term.elem (Term.field (Term.string "GuardRoster$CommandText" (61 : Nat)) "java/lang/String" "value" "[B") (Term.int (1 : Int32))) (Term.int (101 : Int32)) ∈ nrl := List.mem_of_getElem? (i := 674) (by decide +kernel)
theorem nr_122 : Cond.eq (Term.elem (Term.field (Term.string "GuardRoster$CommandText" (61 : Nat)) "java/lang/String" "value" "[B") (Term.int (2 : Int32))) (Term.int (97 : Int32)) ∈ nrl := List.mem_of_getElem? (i := 675) (by decide +kernel)
theorem nr_123 : Cond.eq (Term.elem (Term.field (Term.string "GuardRoster$CommandText" (61 : Nat)) "java/lang/String" "value" "[B") (Term.int (3 : Int32))) (Term.int (118 : Int32)) ∈ nrl := List.mem_of_getElem? (i := 676) (by decide +kernel)
theorem nr_124 : Cond.eq (Term.elem (Term.field (Term.string "GuardRoster$CommandText" (61 : Nat)) "java/lang/String" "value" "[B") (Term.int (4 : Int32))) (Term.int (101 : Int32)) ∈ nrl := List.mem_of_getElem? (i := 677) (by decide +kernel)
theorem nr_125 : Cond.eq (Term.elem (Term.field (Term.string "GuardRoster$CommandText" (61 : Nat)) "java/lang/String" "value" "[B") (Term.int (5 : Int32))) (Term.int (32 : Int32)) ∈ nrl := List.mem_of_getElem? (i := 678) (by decide +kernel)
theorem nr_126 : Cond.eq (Term.elem (Term.field (Term.string "GuardRoster$CommandText" (61 : Nat)) "java/lang/String" "value" "[B") (Term.int (6 : Int32))) (Term.int (35 : Int32)) ∈ nrl := List.mem_of_getElem? (i := 679) (by decide +kernel)
theorem nr_127 : Cond.eq (Term.elem (Term.field (Term.string "GuardRoster$CommandText" (61 : Nat)) "java/lang/String" "value" "[B") (Term.int (7 : Int32))) (Term.int (32 : Int32)) ∈ nrl := List.mem_of_getElem? (i := 680) (by decide +kernel)
theorem nr_128 : Cond.eq (Term.elem (Term.field (Term.string "GuardRoster$CommandText" (61 : Nat)) "java/lang/String" "value" "[B") (Term.int (8 : Int32))) (Term.int (37 : Int32)) ∈ nrl := List.mem_of_getElem? (i := 681) (by decide +kernel)
theorem nr_129 : Cond.eq (Term.elem (Term.field (Term.string "GuardRoster$CommandText" (61 : Nat)) "java/lang/String" "value" "[B") (Term.int (9 : Int32))) (Term.int (45 : Int32)) ∈ nrl := List.mem_of_getElem? (i := 682) (by decide +kernel)
theorem nr_130 : Cond.eq (Term.elem (Term.field (Term.string "GuardRoster$CommandText" (61 : Nat)) "java/lang/String" "value" "[B") (Term.int (10 : Int32))) (Term.int (37 : Int32)) ∈ nrl := List.mem_of_getElem? (i := 683) (by decide +kernel)
theorem nr_131 : Cond.eq (Term.elem (Term.field (Term.string "GuardRoster$CommandText" (63 : Nat)) "java/lang/String" "value" "[B") (Term.int (0 : Int32))) (Term.int (102 : Int32)) ∈ nrl := List.mem_of_getElem? (i := 688) (by decide +kernel)
theorem nr_132 : Cond.eq (Term.elem (Term.field (Term.string "GuardRoster$CommandText" (63 : Nat)) "java/lang/String" "value" "[B") (Term.int (1 : Int32))) (Term.int (105 : Int32)) ∈ nrl := List.mem_of_getElem? (i := 689) (by decide +kernel)
theorem nr_133 : Cond.eq (Term.elem (Term.field (Term.string "GuardRoster$CommandText" (63 : Nat)) "java/lang/String" "value" "[B") (Term.int (2 : Int32))) (Term.int (108 : Int32)) ∈ nrl := List.mem_of_getElem? (i := 690) (by decide +kernel)
theorem nr_134 : Cond.eq (Term.elem (Term.field (Term.string "GuardRoster$CommandText" (63 : Nat)) "java/lang/String" "value" "[B") (Term.int (3 : Int32))) (Term.int (108 : Int32)) ∈ nrl := List.mem_of_getElem? (i := 691) (by decide +kernel)
theorem nr_135 : Cond.eq (Term.elem (Term.field (Term.string "GuardRoster$CommandText" (63 : Nat)) "java/lang/String" "value" "[B") (Term.int (4 : Int32))) (Term.int (32 : Int32)) ∈ nrl := List.mem_of_getElem? (i := 692) (by decide +kernel)
theorem nr_136 : Cond.eq (Term.elem (Term.field (Term.string "GuardRoster$CommandText" (63 : Nat)) "java/lang/String" "value" "[B") (Term.int (5 : Int32))) (Term.int (37 : Int32)) ∈ nrl := List.mem_of_getElem? (i := 693) (by decide +kernel)
theorem nr_137 : Cond.eq (Term.elem (Term.field (Term.string "GuardRoster$CommandText" (65 : Nat)) "java/lang/String" "value" "[B") (Term.int (0 : Int32))) (Term.int (102 : Int32)) ∈ nrl := List.mem_of_getElem? (i := 698) (by decide +kernel)
theorem nr_138 : Cond.eq (Term.elem (Term.field (Term.string "GuardRoster$CommandText" (65 : Nat)) "java/lang/String" "value" "[B") (Term.int (1 : Int32))) (Term.int (111 : Int32)) ∈ nrl := List.mem_of_getElem? (i := 699) (by decide +kernel)
theorem nr_139 : Cond.eq (Term.elem (Term.field (Term.string "GuardRoster$CommandText" (65 : Nat)) "java/lang/String" "value" "[B") (Term.int (2 : Int32))) (Term.int (111 : Int32)) ∈ nrl := List.mem_of_getElem? (i := 700) (by decide +kernel)
theorem nr_140 : Cond.eq (Term.elem (Term.field (Term.string "GuardRoster$CommandText" (65 : Nat)) "java/lang/String" "value" "[B") (Term.int (3 : Int32))) (Term.int (100 : Int32)) ∈ nrl := List.mem_of_getElem? (i := 701) (by decide +kernel)
theorem nr_141 : Cond.eq (Term.elem (Term.field (Term.string "GuardRoster$CommandText" (65 : Nat)) "java/lang/String" "value" "[B") (Term.int (4 : Int32))) (Term.int (32 : Int32)) ∈ nrl := List.mem_of_getElem? (i := 702) (by decide +kernel)
theorem nr_142 : Cond.eq (Term.elem (Term.field (Term.string "GuardRoster$CommandText" (65 : Nat)) "java/lang/String" "value" "[B") (Term.int (5 : Int32))) (Term.int (37 : Int32)) ∈ nrl := List.mem_of_getElem? (i := 703) (by decide +kernel)
theorem nr_143 : Cond.eq (Term.elem (Term.field (Term.string "GuardRoster$CommandText" (67 : Nat)) "java/lang/String" "value" "[B") (Term.int (0 : Int32))) (Term.int (112 : Int32)) ∈ nrl := List.mem_of_getElem? (i := 708) (by decide +kernel)
theorem nr_144 : Cond.eq (Term.elem (Term.field (Term.string "GuardRoster$CommandText" (67 : Nat)) "java/lang/String" "value" "[B") (Term.int (1 : Int32))) (Term.int (97 : Int32)) ∈ nrl := List.mem_of_getElem? (i := 709) (by decide +kernel)
theorem nr_145 : Cond.eq (Term.elem (Term.field (Term.string "GuardRoster$CommandText" (67 : Nat)) "java/lang/String" "value" "[B") (Term.int (2 : Int32))) (Term.int (115 : Int32)) ∈ nrl := List.mem_of_getElem? (i := 710) (by decide +kernel)
theorem nr_146 : Cond.eq (Term.elem (Term.field (Term.string "GuardRoster$CommandText" (67 : Nat)) "java/lang/String" "value" "[B") (Term.int (3 : Int32))) (Term.int (115 : Int32)) ∈ nrl := List.mem_of_getElem? (i := 711) (by decide +kernel)
theorem nr_147 : Cond.eq (Term.elem (Term.field (Term.string "GuardRoster$CommandText" (67 : Nat)) "java/lang/String" "value" "[B") (Term.int (4 : Int32))) (Term.int (32 : Int32)) ∈ nrl := List.mem_of_getElem? (i := 712) (by decide +kernel)
theorem nr_148 : Cond.eq (Term.elem (Term.field (Term.string "GuardRoster$CommandText" (67 : Nat)) "java/lang/String" "value" "[B") (Term.int (5 : Int32))) (Term.int (37 : Int32)) ∈ nrl := List.mem_of_getElem? (i := 713) (by decide +kernel)
theorem nr_149 : Cond.eq (Term.elem (Term.field (Term.string "GuardRosterModel" (183 : Nat)) "java/lang/String" "value" "[B") (Term.int (0 : Int32))) (Term.int (116 : Int32)) ∈ nrl := List.mem_of_getElem? (i := 873) (by decide +kernel)
theorem nr_150 : Cond.eq (Term.elem (Term.field (Term.string "GuardRosterModel" (183 : Nat)) "java/lang/String" "value" "[B") (Term.int (1 : Int32))) (Term.int (101 : Int32)) ∈ nrl := List.mem_of_getElem? (i := 874) (by decide +kernel)
theorem nr_151 : Cond.eq (Term.elem (Term.field (Term.string "GuardRosterModel" (192 : Nat)) "java/lang/String" "value" "[B") (Term.int (0 : Int32))) (Term.int (97 : Int32)) ∈ nrl := List.mem_of_getElem? (i := 879) (by decide +kernel)
theorem nr_152 : Cond.eq (Term.elem (Term.field (Term.string "GuardRosterModel" (192 : Nat)) "java/lang/String" "value" "[B") (Term.int (1 : Int32))) (Term.int (114 : Int32)) ∈ nrl := List.mem_of_getElem? (i := 880) (by decide +kernel)
theorem nr_153 : Cond.eq (Term.elem (Term.field (Term.string "GuardRosterModel" (192 : Nat)) "java/lang/String" "value" "[B") (Term.int (2 : Int32))) (Term.int (100 : Int32)) ∈ nrl := List.mem_of_getElem? (i := 881) (by decide +kernel)
theorem nr_154 : Cond.eq (Term.elem (Term.field (Term.string "GuardRosterModel" (194 : Nat)) "java/lang/String" "value" "[B") (Term.int (0 : Int32))) (Term.int (101 : Int32)) ∈ nrl := List.mem_of_getElem? (i := 886) (by decide +kernel)
theorem nr_155 : Cond.eq (Term.elem (Term.field (Term.string "GuardRosterModel" (194 : Nat)) "java/lang/String" "value" "[B") (Term.int (1 : Int32))) (Term.int (101 : Int32)) ∈ nrl := List.mem_of_getElem? (i := 887) (by decide +kernel)
theorem nr_156 : Cond.eq (Term.elem (Term.field (Term.string "GuardRosterModel" (196 : Nat)) "java/lang/String" "value" "[B") (Term.int (0 : Int32))) (Term.int (108 : Int32)) ∈ nrl := List.mem_of_getElem? (i := 892) (by decide +kernel)
theorem nr_157 : Cond.eq (Term.elem (Term.field (Term.string "GuardRosterModel" (196 : Nat)) "java/lang/String" "value" "[B") (Term.int (1 : Int32))) (Term.int (108 : Int32)) ∈ nrl := List.mem_of_getElem? (i := 893) (by decide +kernel)
theorem nr_158 : Cond.eq (Term.elem (Term.field (Term.string "GuardRosterModel" (198 : Nat)) "java/lang/String" "value" "[B") (Term.int (0 : Int32))) (Term.int (111 : Int32)) ∈ nrl := List.mem_of_getElem? (i := 898) (by decide +kernel)
theorem nr_159 : Cond.eq (Term.elem (Term.field (Term.string "GuardRosterModel" (198 : Nat)) "java/lang/String" "value" "[B") (Term.int (1 : Int32))) (Term.int (100 : Int32)) ∈ nrl := List.mem_of_getElem? (i := 899) (by decide +kernel)
theorem nr_160 : Cond.eq (Term.elem (Term.field (Term.string "GuardRosterModel" (206 : Nat)) "java/lang/String" "value" "[B") (Term.int (0 : Int32))) (Term.int (117 : Int32)) ∈ nrl := List.mem_of_getElem? (i := 904) (by decide +kernel)
theorem nr_161 : Cond.eq (Term.elem (Term.field (Term.string "GuardRosterModel" (206 : Nat)) "java/lang/String" "value" "[B") (Term.int (1 : Int32))) (Term.int (116 : Int32)) ∈ nrl := List.mem_of_getElem? (i := 905) (by decide +kernel)
theorem nr_162 : Cond.eq (Term.elem (Term.field (Term.string "GuardRosterModel" (206 : Nat)) "java/lang/String" "value" "[B") (Term.int (2 : Int32))) (Term.int (121 : Int32)) ∈ nrl := List.mem_of_getElem? (i := 906) (by decide +kernel)
theorem nr_163 : Cond.eq (Term.elem (Term.field (Term.string "GuardRosterModel" (208 : Nat)) "java/lang/String" "value" "[B") (Term.int (0 : Int32))) (Term.int (101 : Int32)) ∈ nrl := List.mem_of_getElem? (i := 911) (by decide +kernel)
theorem nr_164 : Cond.eq (Term.elem (Term.field (Term.string "GuardRosterModel" (208 : Nat)) "java/lang/String" "value" "[B") (Term.int (1 : Int32))) (Term.int (97 : Int32)) ∈ nrl := List.mem_of_getElem? (i := 912) (by decide +kernel)
theorem nr_165 : Cond.eq (Term.elem (Term.field (Term.string "GuardRosterModel" (208 : Nat)) "java/lang/String" "value" "[B") (Term.int (2 : Int32))) (Term.int (118 : Int32)) ∈ nrl := List.mem_of_getElem? (i := 913) (by decide +kernel)
theorem nr_166 : Cond.eq (Term.elem (Term.field (Term.string "GuardRosterModel" (208 : Nat)) "java/lang/String" "value" "[B") (Term.int (3 : Int32))) (Term.int (101 : Int32)) ∈ nrl := List.mem_of_getElem? (i := 914) (by decide +kernel)
theorem nr_167 : Cond.eq (Term.elem (Term.field (Term.string "GuardRosterModel" (210 : Nat)) "java/lang/String" "value" "[B") (Term.int (0 : Int32))) (Term.int (97 : Int32)) ∈ nrl := List.mem_of_getElem? (i := 919) (by decide +kernel)
theorem nr_168 : Cond.eq (Term.elem (Term.field (Term.string "GuardRosterModel" (210 : Nat)) "java/lang/String" "value" "[B") (Term.int (1 : Int32))) (Term.int (115 : Int32)) ∈ nrl := List.mem_of_getElem? (i := 920) (by decide +kernel)
theorem nr_169 : Cond.eq (Term.elem (Term.field (Term.string "GuardRosterModel" (210 : Nat)) "java/lang/String" "value" "[B") (Term.int (2 : Int32))) (Term.int (115 : Int32)) ∈ nrl := List.mem_of_getElem? (i := 921) (by decide +kernel)
theorem nr_170 : Cond.not (Cond.castable "java/lang/IndexOutOfBoundsException" "java/lang/IllegalArgumentException") ∈ nrl := List.mem_of_getElem? (i := 17) (by decide +kernel)
theorem nr_171 : Cond.not (Cond.castable "java/lang/IllegalStateException" "java/lang/IllegalArgumentException") ∈ nrl := List.mem_of_getElem? (i := 18) (by decide +kernel)
theorem nr_172 : Cond.not (Cond.castable "java/util/NoSuchElementException" "java/lang/IllegalArgumentException") ∈ nrl := List.mem_of_getElem? (i := 19) (by decide +kernel)
theorem nr_173 : Cond.not (Cond.castable "java/lang/UnsupportedOperationException" "java/lang/IllegalArgumentException") ∈ nrl := List.mem_of_getElem? (i := 20) (by decide +kernel)
theorem nr_174 : Cond.not (Cond.castable "java/lang/ArrayIndexOutOfBoundsException" "java/lang/IllegalArgumentException") ∈ nrl := List.mem_of_getElem? (i := 21) (by decide +kernel)
theorem nr_175 : Cond.not (Cond.castable "java/lang/ArithmeticException" "java/lang/IllegalArgumentException") ∈ nrl := List.mem_of_getElem? (i := 22) (by decide +kernel)
theorem nr_176 : Cond.not (Cond.castable "java/lang/IndexOutOfBoundsException" "java/lang/IllegalStateException") ∈ nrl := List.mem_of_getElem? (i := 29) (by decide +kernel)
theorem nr_177 : Cond.not (Cond.castable "java/lang/IllegalArgumentException" "java/lang/IllegalStateException") ∈ nrl := List.mem_of_getElem? (i := 30) (by decide +kernel)
theorem nr_178 : Cond.not (Cond.castable "java/util/NoSuchElementException" "java/lang/IllegalStateException") ∈ nrl := List.mem_of_getElem? (i := 31) (by decide +kernel)
theorem nr_179 : Cond.not (Cond.castable "java/lang/UnsupportedOperationException" "java/lang/IllegalStateException") ∈ nrl := List.mem_of_getElem? (i := 32) (by decide +kernel)
theorem nr_180 : Cond.not (Cond.castable "java/lang/ArrayIndexOutOfBoundsException" "java/lang/IllegalStateException") ∈ nrl := List.mem_of_getElem? (i := 33) (by decide +kernel)
theorem nr_181 : Cond.not (Cond.castable "java/lang/ArithmeticException" "java/lang/IllegalStateException") ∈ nrl := List.mem_of_getElem? (i := 34) (by decide +kernel)
theorem nr_182 : Cond.not (Cond.castable "java/lang/IllegalArgumentException" "java/lang/IndexOutOfBoundsException") ∈ nrl := List.mem_of_getElem? (i := 41) (by decide +kernel)
theorem nr_183 : Cond.not (Cond.castable "java/lang/IllegalStateException" "java/lang/IndexOutOfBoundsException") ∈ nrl := List.mem_of_getElem? (i := 42) (by decide +kernel)
theorem nr_184 : Cond.not (Cond.castable "java/util/NoSuchElementException" "java/lang/IndexOutOfBoundsException") ∈ nrl := List.mem_of_getElem? (i := 43) (by decide +kernel)
theorem nr_185 : Cond.not (Cond.castable "java/lang/UnsupportedOperationException" "java/lang/IndexOutOfBoundsException") ∈ nrl := List.mem_of_getElem? (i := 44) (by decide +kernel)
theorem nr_186 : Cond.not (Cond.castable "java/lang/ArithmeticException" "java/lang/IndexOutOfBoundsException") ∈ nrl := List.mem_of_getElem? (i := 45) (by decide +kernel)
theorem nr_187 : Cond.not (Cond.castable "java/lang/IndexOutOfBoundsException" "java/lang/UnsupportedOperationException") ∈ nrl := List.mem_of_getElem? (i := 52) (by decide +kernel)
theorem nr_188 : Cond.not (Cond.castable "java/lang/IllegalArgumentException" "java/lang/UnsupportedOperationException") ∈ nrl := List.mem_of_getElem? (i := 53) (by decide +kernel)
theorem nr_189 : Cond.not (Cond.castable "java/lang/IllegalStateException" "java/lang/UnsupportedOperationException") ∈ nrl := List.mem_of_getElem? (i := 54) (by decide +kernel)
theorem nr_190 : Cond.not (Cond.castable "java/util/NoSuchElementException" "java/lang/UnsupportedOperationException") ∈ nrl := List.mem_of_getElem? (i := 55) (by decide +kernel)
theorem nr_191 : Cond.not (Cond.castable "java/lang/ArrayIndexOutOfBoundsException" "java/lang/UnsupportedOperationException") ∈ nrl := List.mem_of_getElem? (i := 56) (by decide +kernel)
theorem nr_192 : Cond.not (Cond.castable "java/lang/ArithmeticException" "java/lang/UnsupportedOperationException") ∈ nrl := List.mem_of_getElem? (i := 57) (by decide +kernel)
theorem nr_193 : Cond.not (Cond.castable "java/lang/IndexOutOfBoundsException" "java/util/NoSuchElementException") ∈ nrl := List.mem_of_getElem? (i := 64) (by decide +kernel)
theorem nr_194 : Cond.not (Cond.castable "java/lang/IllegalArgumentException" "java/util/NoSuchElementException") ∈ nrl := List.mem_of_getElem? (i := 65) (by decide +kernel)
theorem nr_195 : Cond.not (Cond.castable "java/lang/IllegalStateException" "java/util/NoSuchElementException") ∈ nrl := List.mem_of_getElem? (i := 66) (by decide +kernel)
theorem nr_196 : Cond.not (Cond.castable "java/lang/UnsupportedOperationException" "java/util/NoSuchElementException") ∈ nrl := List.mem_of_getElem? (i := 67) (by decide +kernel)
theorem nr_197 : Cond.not (Cond.castable "java/lang/ArrayIndexOutOfBoundsException" "java/util/NoSuchElementException") ∈ nrl := List.mem_of_getElem? (i := 68) (by decide +kernel)
theorem nr_198 : Cond.not (Cond.castable "java/lang/ArithmeticException" "java/util/NoSuchElementException") ∈ nrl := List.mem_of_getElem? (i := 69) (by decide +kernel)
theorem nr_199 : Cond.not (Cond.castable "java/lang/IndexOutOfBoundsException" "java/lang/ArithmeticException") ∈ nrl := List.mem_of_getElem? (i := 76) (by decide +kernel)
theorem nr_200 : Cond.not (Cond.castable "java/lang/IllegalArgumentException" "java/lang/ArithmeticException") ∈ nrl := List.mem_of_getElem? (i := 77) (by decide +kernel)
theorem nr_201 : Cond.not (Cond.castable "java/lang/IllegalStateException" "java/lang/ArithmeticException") ∈ nrl := List.mem_of_getElem? (i := 78) (by decide +kernel)
theorem nr_202 : Cond.not (Cond.castable "java/util/NoSuchElementException" "java/lang/ArithmeticException") ∈ nrl := List.mem_of_getElem? (i := 79) (by decide +kernel)
theorem nr_203 : Cond.not (Cond.castable "java/lang/UnsupportedOperationException" "java/lang/ArithmeticException") ∈ nrl := List.mem_of_getElem? (i := 80) (by decide +kernel)
theorem nr_204 : Cond.not (Cond.castable "java/lang/ArrayIndexOutOfBoundsException" "java/lang/ArithmeticException") ∈ nrl := List.mem_of_getElem? (i := 81) (by decide +kernel)
theorem nr_205 : Cond.eq (Term.static "java/lang/String" "COMPACT_STRINGS" "Z") (Term.int (1 : Int32)) ∈ nrl := List.mem_of_getElem? (i := 6) (by decide +kernel)
theorem nr_206 : Cond.isRef (Term.static "jdk/internal/util/Preconditions" "SIOOBE_FORMATTER" "Ljava/util/function/BiFunction;") ∈ nrl := List.mem_of_getElem? (i := 7) (by decide +kernel)
theorem nr_207 : Cond.isRef (Term.static "java/lang/Throwable" "UNASSIGNED_STACK" "[Ljava/lang/StackTraceElement;") ∈ nrl := List.mem_of_getElem? (i := 4) (by decide +kernel)
theorem nr_208 : Cond.isRef (Term.static "java/lang/Throwable" "SUPPRESSED_SENTINEL" "Ljava/util/List;") ∈ nrl := List.mem_of_getElem? (i := 5) (by decide +kernel)
theorem tm_eval {args : Array Value} {s : State} {t : Term} (hex : (Cond.exactly t "java/lang/String").before args s = true) : ∃ a : Nat, t.eval args s none [] s = some (.ref a) := by
  obtain ⟨a, c, cA, kA, q1, -⟩ := Cond.exactly_spec (args := args) (first := s) (o := none) (s := s) (idx := []) (t := t) (cls := "java/lang/String") hex
  exact ⟨a, q1⟩
theorem tm_one {args : Array Value} {s : State} {t : Term} {n : Nat} {bs : List Int32} {A : Nat → Prop} (hN : n < 2 ^ 31) (hex : (Cond.exactly t "java/lang/String").before args s = true) (hco : (Cond.eq (.field t "java/lang/String" "coder" "B") (.int 0)).before args s = true) (har : (Cond.arrayOf (.field t "java/lang/String" "value" "[B") .byte).before args s = true) (hle : (Cond.eq (.length (.field t "java/lang/String" "value" "[B")) (.int (Int32.ofNat n))).before args s = true)
    (hel : ∀ j : Nat, j < n → (Cond.eq (.elem (.field t "java/lang/String" "value" "[B") (.int (Int32.ofNat j))) (.int (bs.getD j 0))).before args s = true) (hA : ∀ a : Nat, a < s.heap.size → ¬ A a) {a : Nat} (he : t.eval args s none [] s = some (.ref a)) :
    ∃ v : Nat, va_O "java/lang/String" a A s s.heap ∧ va_OF "java/lang/String" "coder" "B" (.int 0) a A s s.heap ∧ va_OF "java/lang/String" "value" "[B" (.ref v) a A s s.heap ∧ va_T .byte v n (fun j => .int (bs.getD j 0)) A s s.heap := by
  obtain ⟨a', c, cA, kA, q1, q2, q3, q4, q5, q6, -⟩ := Cond.exactly_spec (args := args) (first := s) (o := none) (s := s) (idx := []) (t := t) (cls := "java/lang/String") hex
  have ea : a' = a := by
    have := q1.symm.trans he
    simpa using this
  subst ea
  obtain ⟨v, hv, hT⟩ := va_Tof (f := fun j => .int (bs.getD j 0)) (A := A) hN har (va_eqt hle) (fun j hj => va_eqt (hel j hj)) hA
  exact ⟨v, ⟨cA, q3, q5, by rw [q6]; exact q2, hA _ (Array.getElem?_eq_some_iff.mp q3).1⟩, vk_OFof q1 (va_eqt hco) hA, vk_OFof q1 hv hA, hT⟩
theorem of_same {A : Nat → Prop} {U : State} {H : Heap} {o n d : String} {v w : Value} {a : Nat} (h1 : va_OF o n d v a A U H) (h2 : va_OF o n d w a A U H) : v = w := by
  obtain ⟨cf, k, i, f, cell, e1, -, e2, -, e3, -⟩ := h1
  obtain ⟨cf', k', i', f', cell', g1, -, g2, -, g3, -⟩ := h2
  cases Option.some.inj (e1.symm.trans g1)
  cases Option.some.inj (e2.symm.trans g2)
  exact Option.some.inj (e3.symm.trans g3)
theorem t_same {A : Nat → Prop} {U : State} {H : Heap} {t n m : Nat} {f g : Nat → Value} (h1 : va_T .byte t n f A U H) (h2 : va_T .byte t m g A U H) (hn : n < 2 ^ 31) (hm : m < 2 ^ 31) : n = m ∧ ∀ j, j < n → f j = g j := by
  obtain ⟨cell, e1, -, -, -, e2, e3, -⟩ := h1
  obtain ⟨cell', g1, -, -, -, g2, g3, -⟩ := h2
  cases Option.some.inj (e1.symm.trans g1)
  have hnm : n = m := (nI_eq hn hm).mp (e2.symm.trans g2)
  subst hnm
  exact ⟨rfl, fun j hj => Option.some.inj ((e3 j hj).symm.trans (g3 j hj))⟩
theorem texts_apart : ∀ i : Fin 16, ∀ j : Fin 16, i ≠ j → lenS.getD i.val 0 ≠ lenS.getD j.val 0 ∨ ∃ k : Fin 16, k.val < lenS.getD i.val 0 ∧ (bytS.getD i.val []).getD k.val 0 ≠ (bytS.getD j.val []).getD k.val 0 := by decide +kernel
def tmS : Nat → Term := fun i => match i with
  | 0 => .string "GuardRoster$CommandText" 53
  | 1 => .string "GuardRoster$CommandText" 55
  | 2 => .string "GuardRoster$CommandText" 57
  | 3 => .string "GuardRoster$CommandText" 59
  | 4 => .string "GuardRoster$CommandText" 61
  | 5 => .string "GuardRoster$CommandText" 63
  | 6 => .string "GuardRoster$CommandText" 65
  | 7 => .string "GuardRoster$CommandText" 67
  | 8 => .string "GuardRosterModel" 183
  | 9 => .string "GuardRosterModel" 192
  | 10 => .string "GuardRosterModel" 194
  | 11 => .string "GuardRosterModel" 196
  | 12 => .string "GuardRosterModel" 198
  | 13 => .string "GuardRosterModel" 206
  | 14 => .string "GuardRosterModel" 208
  | 15 => .string "GuardRosterModel" 210
  | 16 => .string "GuardRoster" 369
  | 17 => .string "GuardRoster" 120
  | 18 => .string "GuardRoster" 359
  | 19 => .string "GuardRoster" 361
  | 20 => .string "GuardRoster" 363
  | 21 => .string "GuardRoster" 365
  | 22 => .string "GuardRoster" 86
  | 23 => .string "GuardRoster" 367
  | 24 => .string "GuardRoster" 145
  | 25 => .string "GuardRoster" 149
  | 26 => .string "GuardRoster" 159
  | 27 => .string "GuardRoster" 189
  | 28 => .string "GuardRoster" 194
  | 29 => .string "GuardRoster" 209
  | 30 => .string "GuardRoster" 371
  | 31 => .string "GuardRoster" 248
  | 32 => .string "GuardRoster" 251
  | 33 => .string "GuardRoster" 267
  | 34 => .string "GuardRoster" 290
  | 35 => .string "GuardRoster" 308
  | 36 => .string "GuardRoster" 325
  | 37 => .string "GuardRoster" 331
  | 38 => .string "GuardRoster" 333
  | 39 => .string "GuardRoster" 338
  | _ => .string "GuardRoster" 351
theorem tx_ex {s : State} {b : Nat} (hq : ∀ w ∈ nrl, w.before #[Value.ref b] s = true) : ∀ i, i < 41 → (Cond.exactly (tmS i) "java/lang/String").before #[Value.ref b] s = true := by
  intro i hi
  rcases (show i = 0 ∨ i = 1 ∨ i = 2 ∨ i = 3 ∨ i = 4 ∨ i = 5 ∨ i = 6 ∨ i = 7 ∨ i = 8 ∨ i = 9 ∨ i = 10 ∨ i = 11 ∨ i = 12 ∨ i = 13 ∨ i = 14 ∨ i = 15 ∨ i = 16 ∨ i = 17 ∨ i = 18 ∨ i = 19 ∨ i = 20 ∨ i = 21 ∨ i = 22 ∨ i = 23 ∨ i = 24 ∨ i = 25 ∨ i = 26 ∨ i = 27 ∨ i = 28 ∨ i = 29 ∨ i = 30 ∨ i = 31 ∨ i = 32 ∨ i = 33 ∨ i = 34 ∨ i = 35 ∨ i = 36 ∨ i = 37 ∨ i = 38 ∨ i = 39 ∨ i = 40 by omega) with rfl | rfl | rfl | rfl | rfl | rfl | rfl | rfl | rfl | rfl | rfl | rfl | rfl | rfl | rfl | rfl | rfl | rfl | rfl | rfl | rfl | rfl | rfl | rfl | rfl | rfl | rfl | rfl | rfl | rfl | rfl | rfl | rfl | rfl | rfl | rfl | rfl | rfl | rfl | rfl | rfl
  · exact hq _ nr_0
  · exact hq _ nr_1
  · exact hq _ nr_2
  · exact hq _ nr_3
  · exact hq _ nr_4
  · exact hq _ nr_5
  · exact hq _ nr_6
  · exact hq _ nr_7
  · exact hq _ nr_8
  · exact hq _ nr_9
  · exact hq _ nr_10
  · exact hq _ nr_11
  · exact hq _ nr_12
  · exact hq _ nr_13
  · exact hq _ nr_14
  · exact hq _ nr_15
  · exact hq _ nr_16
  · exact hq _ nr_17
  · exact hq _ nr_18
  · exact hq _ nr_19
  · exact hq _ nr_20
  · exact hq _ nr_21
  · exact hq _ nr_22
  · exact hq _ nr_23
  · exact hq _ nr_24
  · exact hq _ nr_25
  · exact hq _ nr_26
  · exact hq _ nr_27
  · exact hq _ nr_28
  · exact hq _ nr_29
  · exact hq _ nr_30
  · exact hq _ nr_31
  · exact hq _ nr_32
  · exact hq _ nr_33
  · exact hq _ nr_34
  · exact hq _ nr_35
  · exact hq _ nr_36
  · exact hq _ nr_37
  · exact hq _ nr_38
  · exact hq _ nr_39
  · exact hq _ nr_40
theorem tx_co {s : State} {b : Nat} (hq : ∀ w ∈ nrl, w.before #[Value.ref b] s = true) : ∀ i, i < 16 → (Cond.eq (.field (tmS i) "java/lang/String" "coder" "B") (.int 0)).before #[Value.ref b] s = true := by
  intro i hi
  rcases (show i = 0 ∨ i = 1 ∨ i = 2 ∨ i = 3 ∨ i = 4 ∨ i = 5 ∨ i = 6 ∨ i = 7 ∨ i = 8 ∨ i = 9 ∨ i = 10 ∨ i = 11 ∨ i = 12 ∨ i = 13 ∨ i = 14 ∨ i = 15 by omega) with rfl | rfl | rfl | rfl | rfl | rfl | rfl | rfl | rfl | rfl | rfl | rfl | rfl | rfl | rfl | rfl
  · exact hq _ nr_41
  · exact hq _ nr_42
  · exact hq _ nr_43
  · exact hq _ nr_44
  · exact hq _ nr_45
  · exact hq _ nr_46
  · exact hq _ nr_47
  · exact hq _ nr_48
  · exact hq _ nr_49
  · exact hq _ nr_50
  · exact hq _ nr_51
  · exact hq _ nr_52
  · exact hq _ nr_53
  · exact hq _ nr_54
  · exact hq _ nr_55
  · exact hq _ nr_56
theorem tx_ar {s : State} {b : Nat} (hq : ∀ w ∈ nrl, w.before #[Value.ref b] s = true) : ∀ i, i < 16 → (Cond.arrayOf (.field (tmS i) "java/lang/String" "value" "[B") .byte).before #[Value.ref b] s = true := by
  intro i hi
  rcases (show i = 0 ∨ i = 1 ∨ i = 2 ∨ i = 3 ∨ i = 4 ∨ i = 5 ∨ i = 6 ∨ i = 7 ∨ i = 8 ∨ i = 9 ∨ i = 10 ∨ i = 11 ∨ i = 12 ∨ i = 13 ∨ i = 14 ∨ i = 15 by omega) with rfl | rfl | rfl | rfl | rfl | rfl | rfl | rfl | rfl | rfl | rfl | rfl | rfl | rfl | rfl | rfl
  · exact hq _ nr_57
  · exact hq _ nr_58
  · exact hq _ nr_59
  · exact hq _ nr_60
  · exact hq _ nr_61
  · exact hq _ nr_62
  · exact hq _ nr_63
  · exact hq _ nr_64
  · exact hq _ nr_65
  · exact hq _ nr_66
  · exact hq _ nr_67
  · exact hq _ nr_68
  · exact hq _ nr_69
  · exact hq _ nr_70
  · exact hq _ nr_71
  · exact hq _ nr_72
theorem tx_le {s : State} {b : Nat} (hq : ∀ w ∈ nrl, w.before #[Value.ref b] s = true) : ∀ i, i < 16 → (Cond.eq (.length (.field (tmS i) "java/lang/String" "value" "[B")) (.int (Int32.ofNat (lenS.getD i 0)))).before #[Value.ref b] s = true := by
  intro i hi
  rcases (show i = 0 ∨ i = 1 ∨ i = 2 ∨ i = 3 ∨ i = 4 ∨ i = 5 ∨ i = 6 ∨ i = 7 ∨ i = 8 ∨ i = 9 ∨ i = 10 ∨ i = 11 ∨ i = 12 ∨ i = 13 ∨ i = 14 ∨ i = 15 by omega) with rfl | rfl | rfl | rfl | rfl | rfl | rfl | rfl | rfl | rfl | rfl | rfl | rfl | rfl | rfl | rfl
  · exact hq _ nr_73
  · exact hq _ nr_74
  · exact hq _ nr_75
  · exact hq _ nr_76
  · exact hq _ nr_77
  · exact hq _ nr_78
  · exact hq _ nr_79
  · exact hq _ nr_80
  · exact hq _ nr_81
  · exact hq _ nr_82
  · exact hq _ nr_83
  · exact hq _ nr_84
  · exact hq _ nr_85
  · exact hq _ nr_86
  · exact hq _ nr_87
  · exact hq _ nr_88
theorem tx_el {s : State} {b : Nat} (hq : ∀ w ∈ nrl, w.before #[Value.ref b] s = true) : ∀ i, i < 16 → ∀ j, j < lenS.getD i 0 → (Cond.eq (.elem (.field (tmS i) "java/lang/String" "value" "[B") (.int (Int32.ofNat j))) (.int ((bytS.getD i []).getD j 0))).before #[Value.ref b] s = true := by
  intro i hi
  rcases (show i = 0 ∨ i = 1 ∨ i = 2 ∨ i = 3 ∨ i = 4 ∨ i = 5 ∨ i = 6 ∨ i = 7 ∨ i = 8 ∨ i = 9 ∨ i = 10 ∨ i = 11 ∨ i = 12 ∨ i = 13 ∨ i = 14 ∨ i = 15 by omega) with rfl | rfl | rfl | rfl | rfl | rfl | rfl | rfl | rfl | rfl | rfl | rfl | rfl | rfl | rfl | rfl
  · intro j hj
    have hj : j < 6 := hj
    rcases (show j = 0 ∨ j = 1 ∨ j = 2 ∨ j = 3 ∨ j = 4 ∨ j = 5 by omega) with rfl | rfl | rfl | rfl | rfl | rfl
    · exact hq _ nr_89
    · exact hq _ nr_90
    · exact hq _ nr_91
    · exact hq _ nr_92
    · exact hq _ nr_93
    · exact hq _ nr_94
  · intro j hj
    have hj : j < 7 := hj
    rcases (show j = 0 ∨ j = 1 ∨ j = 2 ∨ j = 3 ∨ j = 4 ∨ j = 5 ∨ j = 6 by omega) with rfl | rfl | rfl | rfl | rfl | rfl | rfl
    · exact hq _ nr_95
    · exact hq _ nr_96
    · exact hq _ nr_97
    · exact hq _ nr_98
    · exact hq _ nr_99
    · exact hq _ nr_100
    · exact hq _ nr_101
  · intro j hj
    have hj : j < 10 := hj
    rcases (show j = 0 ∨ j = 1 ∨ j = 2 ∨ j = 3 ∨ j = 4 ∨ j = 5 ∨ j = 6 ∨ j = 7 ∨ j = 8 ∨ j = 9 by omega) with rfl | rfl | rfl | rfl | rfl | rfl | rfl | rfl | rfl | rfl
    · exact hq _ nr_102
    · exact hq _ nr_103
    · exact hq _ nr_104
    · exact hq _ nr_105
    · exact hq _ nr_106
    · exact hq _ nr_107
    · exact hq _ nr_108
    · exact hq _ nr_109
    · exact hq _ nr_110
    · exact hq _ nr_111
  · intro j hj
    have hj : j < 8 := hj
    rcases (show j = 0 ∨ j = 1 ∨ j = 2 ∨ j = 3 ∨ j = 4 ∨ j = 5 ∨ j = 6 ∨ j = 7 by omega) with rfl | rfl | rfl | rfl | rfl | rfl | rfl | rfl
    · exact hq _ nr_112
    · exact hq _ nr_113
    · exact hq _ nr_114
    · exact hq _ nr_115
    · exact hq _ nr_116
    · exact hq _ nr_117
    · exact hq _ nr_118
    · exact hq _ nr_119
  · intro j hj
    have hj : j < 11 := hj
    rcases (show j = 0 ∨ j = 1 ∨ j = 2 ∨ j = 3 ∨ j = 4 ∨ j = 5 ∨ j = 6 ∨ j = 7 ∨ j = 8 ∨ j = 9 ∨ j = 10 by omega) with rfl | rfl | rfl | rfl | rfl | rfl | rfl | rfl | rfl | rfl | rfl
    · exact hq _ nr_120
    · exact hq _ nr_121
    · exact hq _ nr_122
    · exact hq _ nr_123
    · exact hq _ nr_124
    · exact hq _ nr_125
    · exact hq _ nr_126
    · exact hq _ nr_127
    · exact hq _ nr_128
    · exact hq _ nr_129
    · exact hq _ nr_130
  · intro j hj
    have hj : j < 6 := hj
    rcases (show j = 0 ∨ j = 1 ∨ j = 2 ∨ j = 3 ∨ j = 4 ∨ j = 5 by omega) with rfl | rfl | rfl | rfl | rfl | rfl
    · exact hq _ nr_131
    · exact hq _ nr_132
    · exact hq _ nr_133
    · exact hq _ nr_134
    · exact hq _ nr_135
    · exact hq _ nr_136
  · intro j hj
    have hj : j < 6 := hj
    rcases (show j = 0 ∨ j = 1 ∨ j = 2 ∨ j = 3 ∨ j = 4 ∨ j = 5 by omega) with rfl | rfl | rfl | rfl | rfl | rfl
    · exact hq _ nr_137
    · exact hq _ nr_138
    · exact hq _ nr_139
    · exact hq _ nr_140
    · exact hq _ nr_141
    · exact hq _ nr_142
  · intro j hj
    have hj : j < 6 := hj
    rcases (show j = 0 ∨ j = 1 ∨ j = 2 ∨ j = 3 ∨ j = 4 ∨ j = 5 by omega) with rfl | rfl | rfl | rfl | rfl | rfl
    · exact hq _ nr_143
    · exact hq _ nr_144
    · exact hq _ nr_145
    · exact hq _ nr_146
    · exact hq _ nr_147
    · exact hq _ nr_148
  · intro j hj
    have hj : j < 2 := hj
    rcases (show j = 0 ∨ j = 1 by omega) with rfl | rfl
    · exact hq _ nr_149
    · exact hq _ nr_150
  · intro j hj
    have hj : j < 3 := hj
    rcases (show j = 0 ∨ j = 1 ∨ j = 2 by omega) with rfl | rfl | rfl
    · exact hq _ nr_151
    · exact hq _ nr_152
    · exact hq _ nr_153
  · intro j hj
    have hj : j < 2 := hj
    rcases (show j = 0 ∨ j = 1 by omega) with rfl | rfl
    · exact hq _ nr_154
    · exact hq _ nr_155
  · intro j hj
    have hj : j < 2 := hj
    rcases (show j = 0 ∨ j = 1 by omega) with rfl | rfl
    · exact hq _ nr_156
    · exact hq _ nr_157
  · intro j hj
    have hj : j < 2 := hj
    rcases (show j = 0 ∨ j = 1 by omega) with rfl | rfl
    · exact hq _ nr_158
    · exact hq _ nr_159
  · intro j hj
    have hj : j < 3 := hj
    rcases (show j = 0 ∨ j = 1 ∨ j = 2 by omega) with rfl | rfl | rfl
    · exact hq _ nr_160
    · exact hq _ nr_161
    · exact hq _ nr_162
  · intro j hj
    have hj : j < 4 := hj
    rcases (show j = 0 ∨ j = 1 ∨ j = 2 ∨ j = 3 by omega) with rfl | rfl | rfl | rfl
    · exact hq _ nr_163
    · exact hq _ nr_164
    · exact hq _ nr_165
    · exact hq _ nr_166
  · intro j hj
    have hj : j < 3 := hj
    rcases (show j = 0 ∨ j = 1 ∨ j = 2 by omega) with rfl | rfl | rfl
    · exact hq _ nr_167
    · exact hq _ nr_168
    · exact hq _ nr_169
theorem tx_refs {s : State} {b : Nat} (hq : ∀ w ∈ nrl, w.before #[Value.ref b] s = true) (hts : ∀ w ∈ lw_tbl, w.before #[Value.ref b] s = true) (gk : Nat → Nat) (he : ∀ i, i < 41 → (tmS i).eval #[Value.ref b] s none [] s = some (.ref (gk i))) : ∀ (i : Nat) (q : String × Nat × String), strs[i]? = some q → vk_R q.1 q.2.1 q.2.2 (gk i) s := by
  intro i q h
  have hi : i < 41 := (List.getElem?_eq_some_iff.mp h).1
  have hev := he i hi
  rcases (show i = 0 ∨ i = 1 ∨ i = 2 ∨ i = 3 ∨ i = 4 ∨ i = 5 ∨ i = 6 ∨ i = 7 ∨ i = 8 ∨ i = 9 ∨ i = 10 ∨ i = 11 ∨ i = 12 ∨ i = 13 ∨ i = 14 ∨ i = 15 ∨ i = 16 ∨ i = 17 ∨ i = 18 ∨ i = 19 ∨ i = 20 ∨ i = 21 ∨ i = 22 ∨ i = 23 ∨ i = 24 ∨ i = 25 ∨ i = 26 ∨ i = 27 ∨ i = 28 ∨ i = 29 ∨ i = 30 ∨ i = 31 ∨ i = 32 ∨ i = 33 ∨ i = 34 ∨ i = 35 ∨ i = 36 ∨ i = 37 ∨ i = 38 ∨ i = 39 ∨ i = 40 by omega) with rfl | rfl | rfl | rfl | rfl | rfl | rfl | rfl | rfl | rfl | rfl | rfl | rfl | rfl | rfl | rfl | rfl | rfl | rfl | rfl | rfl | rfl | rfl | rfl | rfl | rfl | rfl | rfl | rfl | rfl | rfl | rfl | rfl | rfl | rfl | rfl | rfl | rfl | rfl | rfl | rfl
  · cases h; exact vk_R.of (hts _ (tb_t5 0 rfl)) hev
  · cases h; exact vk_R.of (hts _ (tb_t5 1 rfl)) hev
  · cases h; exact vk_R.of (hts _ (tb_t5 2 rfl)) hev
  · cases h; exact vk_R.of (hts _ (tb_t5 3 rfl)) hev
  · cases h; exact vk_R.of (hts _ (tb_t5 4 rfl)) hev
  · cases h; exact vk_R.of (hts _ (tb_t5 5 rfl)) hev
  · cases h; exact vk_R.of (hts _ (tb_t5 6 rfl)) hev
  · cases h; exact vk_R.of (hts _ (tb_t5 7 rfl)) hev
  · cases h; exact vk_R.of (hts _ (tb_t7 52 rfl)) hev
  · cases h; exact vk_R.of (hts _ (tb_t7 63 rfl)) hev
  · cases h; exact vk_R.of (hts _ (tb_t7 68 rfl)) hev
  · cases h; exact vk_R.of (hts _ (tb_t7 69 rfl)) hev
  · cases h; exact vk_R.of (hts _ (tb_t7 70 rfl)) hev
  · cases h; exact vk_R.of (hts _ (tb_t7 71 rfl)) hev
  · cases h; exact vk_R.of (hts _ (tb_t7 72 rfl)) hev
  · cases h; exact vk_R.of (hts _ (tb_t7 73 rfl)) hev
  · cases h; exact vk_R.of (hts _ (tb_t2 45 rfl)) hev
  · cases h; exact vk_R.of (hts _ (tb_t2 174 rfl)) hev
  · cases h; exact vk_R.of (hts _ (tb_t2 184 rfl)) hev
  · cases h; exact vk_R.of (hts _ (tb_t2 200 rfl)) hev
  · cases h; exact vk_R.of (hts _ (tb_t2 216 rfl)) hev
  · cases h; exact vk_R.of (hts _ (tb_t2 232 rfl)) hev
  · cases h; exact vk_R.of (hts _ (tb_t3 63 rfl)) hev
  · cases h; exact vk_R.of (hts _ (tb_t3 77 rfl)) hev
  · cases h; exact vk_R.of (hts _ (tb_t3 199 rfl)) hev
  · cases h; exact vk_R.of (hts _ (tb_t3 200 rfl)) hev
  · cases h; exact vk_R.of (hts _ (tb_t3 213 rfl)) hev
  · cases h; exact vk_R.of (hts _ (tb_t4 7 rfl)) hev
  · cases h; exact vk_R.of (hts _ (tb_t4 26 rfl)) hev
  · cases h; exact vk_R.of (hts _ (tb_t4 67 rfl)) hev
  · cases h; exact vk_R.of (hts _ (tb_t4 132 rfl)) hev
  · cases h; exact vk_R.of (hts _ (tb_t4 162 rfl)) hev
  · cases h; exact vk_R.of (hts _ (tb_t4 171 rfl)) hev
  · cases h; exact vk_R.of (hts _ (tb_t4 205 rfl)) hev
  · cases h; exact vk_R.of (hts _ (tb_t4 217 rfl)) hev
  · cases h; exact vk_R.of (hts _ (tb_t5 80 rfl)) hev
  · cases h; exact vk_R.of (hts _ (tb_t5 114 rfl)) hev
  · cases h; exact vk_R.of (hts _ (tb_t5 123 rfl)) hev
  · cases h; exact vk_R.of (hts _ (tb_t5 131 rfl)) hev
  · cases h; exact vk_R.of (hts _ (tb_t5 139 rfl)) hev
  · cases h; exact vk_R.of (hts _ (tb_t5 152 rfl)) hev
theorem tx_S {s : State} {b : Nat} (hq : ∀ w ∈ nrl, w.before #[Value.ref b] s = true) {A : Nat → Prop} (hA : ∀ a : Nat, a < s.heap.size → ¬ A a) (gk : Nat → Nat) (he : ∀ i, i < 41 → (tmS i).eval #[Value.ref b] s none [] s = some (.ref (gk i))) : ∃ gv : Nat → Nat, vk_S 16 lenS bytS gk gv A s s.heap := by
  have h0 : ∀ i : Nat, ∃ v : Nat, i < 16 → va_O "java/lang/String" (gk i) A s s.heap ∧ va_OF "java/lang/String" "coder" "B" (.int 0) (gk i) A s s.heap ∧ va_OF "java/lang/String" "value" "[B" (.ref v) (gk i) A s s.heap ∧ va_T .byte v (lenS.getD i 0) (fun j => .int ((bytS.getD i []).getD j 0)) A s s.heap := by
    intro i
    by_cases hi : i < 16
    · obtain ⟨v, hv⟩ := tm_one (n := lenS.getD i 0) (bs := bytS.getD i []) (co_dec (N := 16) (P := fun i => lenS.getD i 0 < 2 ^ 31) (by decide +kernel) hi) (tx_ex hq i (by omega)) (tx_co hq i hi) (tx_ar hq i hi) (tx_le hq i hi) (tx_el hq i hi) hA (he i (by omega))
      exact ⟨v, fun _ => hv⟩
    · exact ⟨0, fun h => absurd h hi⟩
  obtain ⟨gv, hgv⟩ := Classical.axiomOfChoice h0
  refine ⟨gv, fun i hi => hgv i hi, fun i j hi hj e => ?_⟩
  by_cases hij : i = j
  · exact hij
  · exfalso
    obtain ⟨-, -, v1, t1⟩ := hgv i hi
    obtain ⟨-, -, v2, t2⟩ := hgv j hj
    rw [e] at v1
    have ev : gv i = gv j := by
      have := of_same v1 v2
      simpa using this
    rw [ev] at t1
    have hs := t_same t1 t2 (co_dec (N := 16) (P := fun i => lenS.getD i 0 < 2 ^ 31) (by decide +kernel) hi) (co_dec (N := 16) (P := fun i => lenS.getD i 0 < 2 ^ 31) (by decide +kernel) hj)
    rcases texts_apart ⟨i, hi⟩ ⟨j, hj⟩ (fun h => hij (Fin.mk.inj h)) with h | ⟨k, hk, h⟩
    · exact h hs.1
    · have := hs.2 k.val hk
      exact h (by simpa using this)
theorem yf_start {s : State} {b : Nat} (hts : ∀ w ∈ lw_tbl, w.before #[Value.ref b] s = true) : YF s :=
  ⟨List.forall_mem_cons.mpr ⟨va_Nw.of rfl (hts _ (tb_t2 2 rfl)), List.forall_mem_cons.mpr ⟨va_Nw.of rfl (hts _ (tb_t2 177 rfl)), List.forall_mem_cons.mpr ⟨va_Nw.of rfl (hts _ (tb_t2 193 rfl)), List.forall_mem_cons.mpr ⟨va_Nw.of rfl (hts _ (tb_t2 209 rfl)), List.forall_mem_cons.mpr ⟨va_Nw.of rfl (hts _ (tb_t2 225 rfl)), List.forall_mem_cons.mpr ⟨va_Nw.of rfl (hts _ (tb_t4 155 rfl)), fun _ h => absurd h List.not_mem_nil⟩⟩⟩⟩⟩⟩,
   List.forall_mem_cons.mpr ⟨va_Nw.of rfl (hts _ (tb_t2 3 rfl)), List.forall_mem_cons.mpr ⟨va_Nw.of rfl (hts _ (tb_t2 4 rfl)), List.forall_mem_cons.mpr ⟨va_Nw.of rfl (hts _ (tb_t2 5 rfl)), List.forall_mem_cons.mpr ⟨va_Nw.of rfl (hts _ (tb_t2 6 rfl)), List.forall_mem_cons.mpr ⟨va_Nw.of rfl (hts _ (tb_t2 7 rfl)), List.forall_mem_cons.mpr ⟨va_Nw.of rfl (hts _ (tb_t2 8 rfl)), List.forall_mem_cons.mpr ⟨va_Nw.of rfl (hts _ (tb_t3 50 rfl)), List.forall_mem_cons.mpr ⟨va_Nw.of rfl (hts _ (tb_t3 51 rfl)), fun _ h => absurd h List.not_mem_nil⟩⟩⟩⟩⟩⟩⟩⟩⟩
theorem nf_start {s : State} {b : Nat} (hts : ∀ w ∈ lw_tbl, w.before #[Value.ref b] s = true) : NF s :=
  ⟨va_Nw.of rfl (hts _ (tb_t1 48 rfl)), va_Nw.of rfl (hts _ (tb_t1 66 rfl)), va_Nw.of rfl (hts _ (tb_t1 85 rfl)), Jvm.Stand.arrayOver_alikeB (Vm.Alike.refl _) (hts (.arrayOver (.array .int)) (tb_t1 53 rfl))⟩
theorem nc_start {s : State} {b : Nat} (hq : ∀ w ∈ nrl, w.before #[Value.ref b] s = true) : ∀ q ∈ ncs, va_Nc q.1 q.2 s :=
  List.forall_mem_cons.mpr ⟨va_Nc.of (hq _ nr_170), List.forall_mem_cons.mpr ⟨va_Nc.of (hq _ nr_171), List.forall_mem_cons.mpr ⟨va_Nc.of (hq _ nr_172), List.forall_mem_cons.mpr ⟨va_Nc.of (hq _ nr_173), List.forall_mem_cons.mpr ⟨va_Nc.of (hq _ nr_174), List.forall_mem_cons.mpr ⟨va_Nc.of (hq _ nr_175), List.forall_mem_cons.mpr ⟨va_Nc.of (hq _ nr_176), List.forall_mem_cons.mpr ⟨va_Nc.of (hq _ nr_177), List.forall_mem_cons.mpr ⟨va_Nc.of (hq _ nr_178), List.forall_mem_cons.mpr ⟨va_Nc.of (hq _ nr_179), List.forall_mem_cons.mpr ⟨va_Nc.of (hq _ nr_180), List.forall_mem_cons.mpr ⟨va_Nc.of (hq _ nr_181), List.forall_mem_cons.mpr ⟨va_Nc.of (hq _ nr_182), List.forall_mem_cons.mpr ⟨va_Nc.of (hq _ nr_183), List.forall_mem_cons.mpr ⟨va_Nc.of (hq _ nr_184), List.forall_mem_cons.mpr ⟨va_Nc.of (hq _ nr_185), List.forall_mem_cons.mpr ⟨va_Nc.of (hq _ nr_186), List.forall_mem_cons.mpr ⟨va_Nc.of (hq _ nr_187), List.forall_mem_cons.mpr ⟨va_Nc.of (hq _ nr_188), List.forall_mem_cons.mpr ⟨va_Nc.of (hq _ nr_189), List.forall_mem_cons.mpr ⟨va_Nc.of (hq _ nr_190), List.forall_mem_cons.mpr ⟨va_Nc.of (hq _ nr_191), List.forall_mem_cons.mpr ⟨va_Nc.of (hq _ nr_192), List.forall_mem_cons.mpr ⟨va_Nc.of (hq _ nr_193), List.forall_mem_cons.mpr ⟨va_Nc.of (hq _ nr_194), List.forall_mem_cons.mpr ⟨va_Nc.of (hq _ nr_195), List.forall_mem_cons.mpr ⟨va_Nc.of (hq _ nr_196), List.forall_mem_cons.mpr ⟨va_Nc.of (hq _ nr_197), List.forall_mem_cons.mpr ⟨va_Nc.of (hq _ nr_198), List.forall_mem_cons.mpr ⟨va_Nc.of (hq _ nr_199), List.forall_mem_cons.mpr ⟨va_Nc.of (hq _ nr_200), List.forall_mem_cons.mpr ⟨va_Nc.of (hq _ nr_201), List.forall_mem_cons.mpr ⟨va_Nc.of (hq _ nr_202), List.forall_mem_cons.mpr ⟨va_Nc.of (hq _ nr_203), List.forall_mem_cons.mpr ⟨va_Nc.of (hq _ nr_204), fun _ h => absurd h List.not_mem_nil⟩⟩⟩⟩⟩⟩⟩⟩⟩⟩⟩⟩⟩⟩⟩⟩⟩⟩⟩⟩⟩⟩⟩⟩⟩⟩⟩⟩⟩⟩⟩⟩⟩⟩⟩
theorem k_arrc {s : State} {b : Nat} {ty : FieldType} (hp : va_RA s 0 ty = (s.vm.findClass ("[" ++ ty.toString) = some 0)) (hp2 : ∀ c, va_RA s c ty = (s.vm.findClass ("[" ++ ty.toString) = some c)) (h : (Cond.arrayClass ty).before #[Value.ref b] s = true) : ∃ c : ClassId, ArrOfT s c ty ∧ va_RA s c ty := by
  obtain ⟨c, k, comp, h1, h2, h3⟩ := Cond.arrayClass_spec (args := #[Value.ref b]) (first := s) (o := none) (idx := []) h
  exact ⟨c, fun n z => ⟨fun k h => (by cases h), k, h2, comp, h3⟩, by rw [hp2]; exact h1⟩
theorem k_start {s : State} {b : Nat} (hts : ∀ w ∈ lw_tbl, w.before #[Value.ref b] s = true) (hN : NF s) : ∃ (D : va_G) (gcc : Nat → ClassId), ∀ (ga0 gk gv : Nat → Nat), va_K D cls (tysW ((D, ga0), gcc, gk, gv)) s := by
  have ht : ∀ w ∈ gw, w.before #[Value.ref b] s = true := fun w hw => hts w (gw_tbl w hw)
  obtain ⟨c0, i0, hk0⟩ := u_known (C := RX4) (T := TX4) (N := 12) (n := 12) ht in_0 (ht (.instantiable RX4 12) lk25)
  obtain ⟨c1, i1, hk1⟩ := u_known (C := RX2) (T := TX2) (N := 2) (n := 2) ht in_1 (ht (.instantiable RX2 2) lk33)
  obtain ⟨c2, i2, hk2⟩ := u_known (C := RX1) (T := TX1) (N := 3) (n := 3) ht in_2 (ht (.instantiable RX1 3) lk47)
  obtain ⟨c3, i3, hk3⟩ := u_known (C := RX3) (T := TX3) (N := 4) (n := 4) ht in_3 (ht (.instantiable RX3 4) lk65)
  obtain ⟨c4, i4, hk4⟩ := u_known (C := RX0) (T := TX0) (N := 6) (n := 6) ht in_4 (ht (.instantiable RX0 6) lk84)
  obtain ⟨c5, i5, hk5⟩ := u_known (C := RX5) (T := TX5) (N := 21) (n := 21) ht in_5 (ht (.instantiable RX5 21) lk1119)
  obtain ⟨a0, ha0, hb0⟩ := k_arrc (ty := .int) rfl (fun _ => rfl) (ht _ lk45)
  obtain ⟨a1, ha1, hb1⟩ := k_arrc (ty := .char) rfl (fun _ => rfl) (ht _ lk108)
  obtain ⟨a3, ha3, hb3⟩ := k_arrc (ty := .long) rfl (fun _ => rfl) (ht _ lk1550)
  obtain ⟨a4, ha4, hb4⟩ := k_arrc (ty := .double) rfl (fun _ => rfl) (ht _ lk1551)
  obtain ⟨comp, a2, k2, -, -, h2, h3, h4⟩ := Jvm.Stand.arrayOver_specB hN.2.2.2
  refine ⟨(fun k => [c0, c1, c2, c3, c4, c5].getD k c0, fun k => [i0, i1, i2, i3, i4, i5].getD k i0), fun k => [a0, a1, a2, a3, a4].getD k a0, fun ga0 gk gv => ⟨fun k q hq => ?_, fun k q hq => ?_⟩⟩
  · match k, hq with
    | 0, hq => cases hq; exact hk0
    | 1, hq => cases hq; exact hk1
    | 2, hq => cases hq; exact hk2
    | 3, hq => cases hq; exact hk3
    | 4, hq => cases hq; exact hk4
    | 5, hq => cases hq; exact hk5
    | k + 6, hq => simp [cls] at hq
  · match k, hq with
    | 0, hq => cases hq; exact ⟨ha0, hb0⟩
    | 1, hq => cases hq; exact ⟨ha1, hb1⟩
    | 2, hq => cases hq; exact ⟨fun n z => ⟨fun k h => (by cases h), k2, h2, comp, h3⟩, h4⟩
    | 3, hq => cases hq; exact ⟨ha3, hb3⟩
    | 4, hq => cases hq; exact ⟨ha4, hb4⟩
    | k + 5, hq => simp [tysW] at hq
theorem z_start {s : State} {b : Nat} (hts : ∀ w ∈ lw_tbl, w.before #[Value.ref b] s = true) (hq : ∀ w ∈ nrl, w.before #[Value.ref b] s = true) {A : Nat → Prop} (hA : ∀ a : Nat, a < s.heap.size → ¬ A a) : ∃ gk gv : Nat → Nat, ∀ (D : va_G) (ga0 : Nat → Nat) (gcc : Nat → ClassId), ZF ((D, ga0), gcc, gk, gv) A s s.heap := by
  have h0 : ∀ i : Nat, ∃ v : Nat, i < 41 → (tmS i).eval #[Value.ref b] s none [] s = some (.ref v) := by
    intro i
    by_cases hi : i < 41
    · obtain ⟨v, hv⟩ := tm_eval (tx_ex hq i hi)
      exact ⟨v, fun _ => hv⟩
    · exact ⟨0, fun h => absurd h hi⟩
  obtain ⟨gk, hgk⟩ := Classical.axiomOfChoice h0
  obtain ⟨gv, hgv⟩ := tx_S hq hA gk hgk
  exact ⟨gk, gv, fun D ga0 gcc => ⟨hgv, tx_refs hq hts gk hgk, va_Zof (hts _ (tb_t5 21 rfl)) (hts _ (tb_t1 18 rfl)) (va_eqt (hq _ nr_205)) hA, va_Zqof (hts _ (tb_t5 37 rfl)) (hts _ (tb_t1 22 rfl)) (hq _ nr_206) hA, vx_Zqof (hts _ (tb_t2 27 rfl)) (hts _ (tb_t1 7 rfl)) (hq _ nr_207) hA, vx_Zqof (hts _ (tb_t2 29 rfl)) (hts _ (tb_t1 7 rfl)) (hq _ nr_208) hA, nc_start hq⟩⟩
