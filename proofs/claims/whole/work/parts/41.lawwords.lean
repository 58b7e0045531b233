/-! the law: words, decoding -/
theorem zk_25 : (Jvm.Cond.classLink "SeenToMoveLaw" (8 : Nat) "SeenToMove") ∈ zTT := zTT_in (List.mem_of_getElem? (i := 25) (by decide +kernel)) rfl
theorem zk_27 : (Jvm.Cond.methodLink "SeenToMoveLaw" (19 : Nat) ({ cls := "SeenToMove", name := "<init>", desc := "()V" } : Jvm.MethodName)) ∈ zTT := zTT_in (List.mem_of_getElem? (i := 27) (by decide +kernel)) rfl
theorem zk_551 : (Jvm.Cond.methodLink "SeenToMoveLaw" (23 : Nat) ({ cls := "SeenToMove", name := "feed", desc := "(IIIII)I" } : Jvm.MethodName)) ∈ zTT := zTT_in (List.mem_of_getElem? (i := 551) (by decide +kernel)) rfl
theorem zk_559 : (Jvm.Cond.methodLink "SeenToMoveLaw" (28 : Nat) ({ cls := "SeenToMove", name := "end", desc := "(I)Z" } : Jvm.MethodName)) ∈ zTT := zTT_in (List.mem_of_getElem? (i := 559) (by decide +kernel)) rfl
theorem zk_563 : (Jvm.Cond.methodLink "SeenToMoveLaw" (33 : Nat) ({ cls := "SeenToMove", name := "field", desc := "()I" } : Jvm.MethodName)) ∈ zTT := zTT_in (List.mem_of_getElem? (i := 563) (by decide +kernel)) rfl
theorem zk_743 : (Jvm.Cond.methodLink "SeenToMoveLaw" (38 : Nat) ({ cls := "SeenToMove", name := "fault", desc := "()I" } : Jvm.MethodName)) ∈ zTT := zTT_in (List.mem_of_getElem? (i := 743) (by decide +kernel)) rfl
theorem zk_747 : (Jvm.Cond.methodLink "SeenToMoveLaw" (51 : Nat) ({ cls := "SeenToMove", name := "looker", desc := "(II)I" } : Jvm.MethodName)) ∈ zTT := zTT_in (List.mem_of_getElem? (i := 747) (by decide +kernel)) rfl
theorem zk_776 : (Jvm.Cond.methodLink "SeenToMoveLaw" (55 : Nat) ({ cls := "SeenToMove", name := "cell", desc := "(III)I" } : Jvm.MethodName)) ∈ zTT := zTT_in (List.mem_of_getElem? (i := 776) (by decide +kernel)) rfl
theorem zk_786 : (Jvm.Cond.methodLink "SeenToMoveLaw" (60 : Nat) ({ cls := "SeenToMove", name := "now", desc := "(I)I" } : Jvm.MethodName)) ∈ zTT := zTT_in (List.mem_of_getElem? (i := 786) (by decide +kernel)) rfl
theorem zk_815 : (Jvm.Cond.methodLink "SeenToMoveLaw" (64 : Nat) ({ cls := "SeenToMove", name := "land", desc := "(I)I" } : Jvm.MethodName)) ∈ zTT := zTT_in (List.mem_of_getElem? (i := 815) (by decide +kernel)) rfl
theorem zk_820 : (Jvm.Cond.methodLink "SeenToMoveLaw" (68 : Nat) ({ cls := "SeenToMove", name := "turn", desc := "(II)I" } : Jvm.MethodName)) ∈ zTT := zTT_in (List.mem_of_getElem? (i := 820) (by decide +kernel)) rfl
theorem zk_847 : (Jvm.Cond.methodLink "SeenToMoveLaw" (72 : Nat) ({ cls := "SeenToMove", name := "walk", desc := "(II)I" } : Jvm.MethodName)) ∈ zTT := zTT_in (List.mem_of_getElem? (i := 847) (by decide +kernel)) rfl
theorem zk_856 : (Jvm.Cond.methodLink "SeenToMoveLaw" (76 : Nat) ({ cls := "SeenToMove", name := "shut", desc := "(I)I" } : Jvm.MethodName)) ∈ zTT := zTT_in (List.mem_of_getElem? (i := 856) (by decide +kernel)) rfl
theorem zk_864 : (Jvm.Cond.methodLink "SeenToMoveLaw" (80 : Nat) ({ cls := "SeenToMove", name := "open", desc := "(I)I" } : Jvm.MethodName)) ∈ zTT := zTT_in (List.mem_of_getElem? (i := 864) (by decide +kernel)) rfl
theorem zk_868 : (Jvm.Cond.methodLink "SeenToMoveLaw" (84 : Nat) ({ cls := "SeenToMove", name := "face", desc := "(II)I" } : Jvm.MethodName)) ∈ zTT := zTT_in (List.mem_of_getElem? (i := 868) (by decide +kernel)) rfl
theorem zk_881 : (Jvm.Cond.methodLink "SeenToMoveLaw" (88 : Nat) ({ cls := "SeenToMove", name := "hours", desc := "(I)I" } : Jvm.MethodName)) ∈ zTT := zTT_in (List.mem_of_getElem? (i := 881) (by decide +kernel)) rfl
theorem zk_901 : (Jvm.Cond.methodLink "SeenToMoveLaw" (92 : Nat) ({ cls := "SeenToMove", name := "undo", desc := "()I" } : Jvm.MethodName)) ∈ zTT := zTT_in (List.mem_of_getElem? (i := 901) (by decide +kernel)) rfl
theorem zk_909 : (Jvm.Cond.methodLink "SeenToMoveLaw" (96 : Nat) ({ cls := "SeenToMove", name := "where", desc := "(II)I" } : Jvm.MethodName)) ∈ zTT := zTT_in (List.mem_of_getElem? (i := 909) (by decide +kernel)) rfl
theorem zk_913 : (Jvm.Cond.methodLink "SeenToMoveLaw" (100 : Nat) ({ cls := "SeenToMove", name := "comes", desc := "(III)I" } : Jvm.MethodName)) ∈ zTT := zTT_in (List.mem_of_getElem? (i := 913) (by decide +kernel)) rfl
theorem zk_917 : (Jvm.Cond.methodLink "SeenToMoveLaw" (104 : Nat) ({ cls := "SeenToMove", name := "cover", desc := "()I" } : Jvm.MethodName)) ∈ zTT := zTT_in (List.mem_of_getElem? (i := 917) (by decide +kernel)) rfl
theorem zk_940 : (Jvm.Cond.methodLink "SeenToMoveLaw" (108 : Nat) ({ cls := "SeenToMove", name := "coverBy", desc := "(I)I" } : Jvm.MethodName)) ∈ zTT := zTT_in (List.mem_of_getElem? (i := 940) (by decide +kernel)) rfl
theorem zk_944 : (Jvm.Cond.methodLink "SeenToMoveLaw" (112 : Nat) ({ cls := "SeenToMove", name := "few", desc := "()I" } : Jvm.MethodName)) ∈ zTT := zTT_in (List.mem_of_getElem? (i := 944) (by decide +kernel)) rfl
theorem zk_952 : (Jvm.Cond.methodLink "SeenToMoveLaw" (116 : Nat) ({ cls := "SeenToMove", name := "fewest", desc := "()I" } : Jvm.MethodName)) ∈ zTT := zTT_in (List.mem_of_getElem? (i := 952) (by decide +kernel)) rfl
theorem zk_956 : (Jvm.Cond.methodLink "SeenToMoveLaw" (120 : Nat) ({ cls := "SeenToMove", name := "blind", desc := "(IIII)I" } : Jvm.MethodName)) ∈ zTT := zTT_in (List.mem_of_getElem? (i := 956) (by decide +kernel)) rfl
theorem zk_964 : (Jvm.Cond.methodLink "SeenToMoveLaw" (125 : Nat) ({ cls := "SeenToMove", name := "blinded", desc := "()I" } : Jvm.MethodName)) ∈ zTT := zTT_in (List.mem_of_getElem? (i := 964) (by decide +kernel)) rfl
theorem zk_968 : (Jvm.Cond.methodLink "SeenToMoveLaw" (129 : Nat) ({ cls := "SeenToMove", name := "fits", desc := "()I" } : Jvm.MethodName)) ∈ zTT := zTT_in (List.mem_of_getElem? (i := 968) (by decide +kernel)) rfl
theorem zk_1006 : (Jvm.Cond.methodLink "SeenToMoveLaw" (133 : Nat) ({ cls := "SeenToMove", name := "fitsAt", desc := "(I)I" } : Jvm.MethodName)) ∈ zTT := zTT_in (List.mem_of_getElem? (i := 1006) (by decide +kernel)) rfl
theorem zk_1010 : (Jvm.Cond.methodLink "SeenToMoveLaw" (137 : Nat) ({ cls := "SeenToMove", name := "ask", desc := "()I" } : Jvm.MethodName)) ∈ zTT := zTT_in (List.mem_of_getElem? (i := 1010) (by decide +kernel)) rfl
theorem zk_1014 : (Jvm.Cond.methodLink "SeenToMoveLaw" (141 : Nat) ({ cls := "SeenToMove", name := "grown", desc := "()I" } : Jvm.MethodName)) ∈ zTT := zTT_in (List.mem_of_getElem? (i := 1014) (by decide +kernel)) rfl
theorem zk_1018 : (Jvm.Cond.methodLink "SeenToMoveLaw" (145 : Nat) ({ cls := "SeenToMove", name := "farthest", desc := "()I" } : Jvm.MethodName)) ∈ zTT := zTT_in (List.mem_of_getElem? (i := 1018) (by decide +kernel)) rfl
theorem zk_1022 : (Jvm.Cond.methodLink "SeenToMoveLaw" (153 : Nat) ({ cls := "SeenToMove", name := "line", desc := "(I)I" } : Jvm.MethodName)) ∈ zTT := zTT_in (List.mem_of_getElem? (i := 1022) (by decide +kernel)) rfl
theorem zk_1048 : (Jvm.Cond.methodLink "SeenToMoveLaw" (157 : Nat) ({ cls := "SeenToMove", name := "byteAt", desc := "(I)I" } : Jvm.MethodName)) ∈ zTT := zTT_in (List.mem_of_getElem? (i := 1048) (by decide +kernel)) rfl
theorem zk_1052 : (Jvm.Cond.methodLink "SeenToMoveLaw" (161 : Nat) ({ cls := "SeenToMove", name := "drawn", desc := "(II)I" } : Jvm.MethodName)) ∈ zTT := zTT_in (List.mem_of_getElem? (i := 1052) (by decide +kernel)) rfl
theorem zk_1068 : (Jvm.Cond.methodLink "SeenToMoveLaw" (165 : Nat) ({ cls := "SeenToMove", name := "odds", desc := "(III)I" } : Jvm.MethodName)) ∈ zTT := zTT_in (List.mem_of_getElem? (i := 1068) (by decide +kernel)) rfl
theorem zk_1076 : (Jvm.Cond.methodLink "SeenToMoveLaw" (169 : Nat) ({ cls := "SeenToMove", name := "book", desc := "(I)I" } : Jvm.MethodName)) ∈ zTT := zTT_in (List.mem_of_getElem? (i := 1076) (by decide +kernel)) rfl
theorem zk_1132 : (Jvm.Cond.methodLink "SeenToMoveLaw" (173 : Nat) ({ cls := "SeenToMove", name := "told", desc := "(I)I" } : Jvm.MethodName)) ∈ zTT := zTT_in (List.mem_of_getElem? (i := 1132) (by decide +kernel)) rfl
theorem zk_1136 : (Jvm.Cond.methodLink "SeenToMoveLaw" (177 : Nat) ({ cls := "SeenToMove", name := "sentence", desc := "()I" } : Jvm.MethodName)) ∈ zTT := zTT_in (List.mem_of_getElem? (i := 1136) (by decide +kernel)) rfl
theorem zk_1176 : (Jvm.Cond.methodLink "SeenToMoveLaw" (181 : Nat) ({ cls := "SeenToMove", name := "said", desc := "(I)I" } : Jvm.MethodName)) ∈ zTT := zTT_in (List.mem_of_getElem? (i := 1176) (by decide +kernel)) rfl
theorem zk_1194 : (Jvm.Cond.methodLink "SeenToMoveLaw" (185 : Nat) ({ cls := "SeenToMove", name := "image", desc := "(I)Z" } : Jvm.MethodName)) ∈ zTT := zTT_in (List.mem_of_getElem? (i := 1194) (by decide +kernel)) rfl
theorem zk_1202 : (Jvm.Cond.methodLink "SeenToMoveLaw" (189 : Nat) ({ cls := "SeenToMove", name := "restore", desc := "(I)Z" } : Jvm.MethodName)) ∈ zTT := zTT_in (List.mem_of_getElem? (i := 1202) (by decide +kernel)) rfl
theorem zk_1206 : (Jvm.Cond.methodLink "SeenToMoveLaw" (193 : Nat) ({ cls := "SeenToMove", name := "count", desc := "(I)I" } : Jvm.MethodName)) ∈ zTT := zTT_in (List.mem_of_getElem? (i := 1206) (by decide +kernel)) rfl
theorem zk_1294 : (Jvm.Cond.methodLink "SeenToMoveLaw" (48 : Nat) ({ cls := "SeenToMoveModel", name := "thrown", desc := "()I" } : Jvm.MethodName)) ∈ zTT := zTT_in (List.mem_of_getElem? (i := 1294) (by decide +kernel)) rfl
theorem zk_1298 : (Jvm.Cond.methodLink "SeenToMoveLaw" (27 : Nat) ({ cls := "SeenToMoveModel", name := "feed", desc := "(IIIII)I" } : Jvm.MethodName)) ∈ zTT := zTT_in (List.mem_of_getElem? (i := 1298) (by decide +kernel)) rfl
theorem zk_1307 : (Jvm.Cond.methodLink "SeenToMoveLaw" (32 : Nat) ({ cls := "SeenToMoveModel", name := "end", desc := "(I)Z" } : Jvm.MethodName)) ∈ zTT := zTT_in (List.mem_of_getElem? (i := 1307) (by decide +kernel)) rfl
theorem zk_1311 : (Jvm.Cond.classLink "SeenToMoveLaw" (20 : Nat) "SeenToMoveModel") ∈ zTT := zTT_in (List.mem_of_getElem? (i := 1311) (by decide +kernel)) rfl
theorem zk_1312 : (Jvm.Cond.methodLink "SeenToMoveLaw" (22 : Nat) ({ cls := "SeenToMoveModel", name := "<init>", desc := "()V" } : Jvm.MethodName)) ∈ zTT := zTT_in (List.mem_of_getElem? (i := 1312) (by decide +kernel)) rfl
theorem zk_1499 : (Jvm.Cond.methodLink "SeenToMoveLaw" (37 : Nat) ({ cls := "SeenToMoveModel", name := "field", desc := "()I" } : Jvm.MethodName)) ∈ zTT := zTT_in (List.mem_of_getElem? (i := 1499) (by decide +kernel)) rfl
theorem zk_1616 : (Jvm.Cond.methodLink "SeenToMoveLaw" (41 : Nat) ({ cls := "SeenToMoveModel", name := "fault", desc := "()I" } : Jvm.MethodName)) ∈ zTT := zTT_in (List.mem_of_getElem? (i := 1616) (by decide +kernel)) rfl
theorem zk_1620 : (Jvm.Cond.methodLink "SeenToMoveLaw" (47 : Nat) ({ cls := "SeenToMoveModel", name := "figure", desc := "(II)I" } : Jvm.MethodName)) ∈ zTT := zTT_in (List.mem_of_getElem? (i := 1620) (by decide +kernel)) rfl
theorem zk_1671 : (Jvm.Cond.methodLink "SeenToMoveLaw" (54 : Nat) ({ cls := "SeenToMoveModel", name := "looker", desc := "(II)I" } : Jvm.MethodName)) ∈ zTT := zTT_in (List.mem_of_getElem? (i := 1671) (by decide +kernel)) rfl
theorem zk_1679 : (Jvm.Cond.methodLink "SeenToMoveLaw" (59 : Nat) ({ cls := "SeenToMoveModel", name := "cell", desc := "(III)I" } : Jvm.MethodName)) ∈ zTT := zTT_in (List.mem_of_getElem? (i := 1679) (by decide +kernel)) rfl
theorem zk_1683 : (Jvm.Cond.methodLink "SeenToMoveLaw" (63 : Nat) ({ cls := "SeenToMoveModel", name := "now", desc := "(I)I" } : Jvm.MethodName)) ∈ zTT := zTT_in (List.mem_of_getElem? (i := 1683) (by decide +kernel)) rfl
theorem zk_1691 : (Jvm.Cond.methodLink "SeenToMoveLaw" (67 : Nat) ({ cls := "SeenToMoveModel", name := "land", desc := "(I)I" } : Jvm.MethodName)) ∈ zTT := zTT_in (List.mem_of_getElem? (i := 1691) (by decide +kernel)) rfl
theorem zk_1699 : (Jvm.Cond.methodLink "SeenToMoveLaw" (71 : Nat) ({ cls := "SeenToMoveModel", name := "turn", desc := "(II)I" } : Jvm.MethodName)) ∈ zTT := zTT_in (List.mem_of_getElem? (i := 1699) (by decide +kernel)) rfl
theorem zk_1707 : (Jvm.Cond.methodLink "SeenToMoveLaw" (75 : Nat) ({ cls := "SeenToMoveModel", name := "walk", desc := "(II)I" } : Jvm.MethodName)) ∈ zTT := zTT_in (List.mem_of_getElem? (i := 1707) (by decide +kernel)) rfl
theorem zk_1715 : (Jvm.Cond.methodLink "SeenToMoveLaw" (79 : Nat) ({ cls := "SeenToMoveModel", name := "shut", desc := "(I)I" } : Jvm.MethodName)) ∈ zTT := zTT_in (List.mem_of_getElem? (i := 1715) (by decide +kernel)) rfl
theorem zk_1723 : (Jvm.Cond.methodLink "SeenToMoveLaw" (83 : Nat) ({ cls := "SeenToMoveModel", name := "open", desc := "(I)I" } : Jvm.MethodName)) ∈ zTT := zTT_in (List.mem_of_getElem? (i := 1723) (by decide +kernel)) rfl
theorem zk_1727 : (Jvm.Cond.methodLink "SeenToMoveLaw" (87 : Nat) ({ cls := "SeenToMoveModel", name := "face", desc := "(II)I" } : Jvm.MethodName)) ∈ zTT := zTT_in (List.mem_of_getElem? (i := 1727) (by decide +kernel)) rfl
theorem zk_1735 : (Jvm.Cond.methodLink "SeenToMoveLaw" (91 : Nat) ({ cls := "SeenToMoveModel", name := "hours", desc := "(I)I" } : Jvm.MethodName)) ∈ zTT := zTT_in (List.mem_of_getElem? (i := 1735) (by decide +kernel)) rfl
theorem zk_1751 : (Jvm.Cond.methodLink "SeenToMoveLaw" (95 : Nat) ({ cls := "SeenToMoveModel", name := "undo", desc := "()I" } : Jvm.MethodName)) ∈ zTT := zTT_in (List.mem_of_getElem? (i := 1751) (by decide +kernel)) rfl
theorem zk_1755 : (Jvm.Cond.methodLink "SeenToMoveLaw" (99 : Nat) ({ cls := "SeenToMoveModel", name := "where", desc := "(II)I" } : Jvm.MethodName)) ∈ zTT := zTT_in (List.mem_of_getElem? (i := 1755) (by decide +kernel)) rfl
theorem zk_1767 : (Jvm.Cond.methodLink "SeenToMoveLaw" (103 : Nat) ({ cls := "SeenToMoveModel", name := "comes", desc := "(III)I" } : Jvm.MethodName)) ∈ zTT := zTT_in (List.mem_of_getElem? (i := 1767) (by decide +kernel)) rfl
theorem zk_1775 : (Jvm.Cond.methodLink "SeenToMoveLaw" (124 : Nat) ({ cls := "SeenToMoveModel", name := "blind", desc := "(IIII)I" } : Jvm.MethodName)) ∈ zTT := zTT_in (List.mem_of_getElem? (i := 1775) (by decide +kernel)) rfl
theorem zk_1782 : (Jvm.Cond.methodLink "SeenToMoveLaw" (128 : Nat) ({ cls := "SeenToMoveModel", name := "blinded", desc := "()I" } : Jvm.MethodName)) ∈ zTT := zTT_in (List.mem_of_getElem? (i := 1782) (by decide +kernel)) rfl
theorem zk_1786 : (Jvm.Cond.methodLink "SeenToMoveLaw" (107 : Nat) ({ cls := "SeenToMoveModel", name := "cover", desc := "()I" } : Jvm.MethodName)) ∈ zTT := zTT_in (List.mem_of_getElem? (i := 1786) (by decide +kernel)) rfl
theorem zk_1797 : (Jvm.Cond.methodLink "SeenToMoveLaw" (111 : Nat) ({ cls := "SeenToMoveModel", name := "coverBy", desc := "(I)I" } : Jvm.MethodName)) ∈ zTT := zTT_in (List.mem_of_getElem? (i := 1797) (by decide +kernel)) rfl
theorem zk_1801 : (Jvm.Cond.methodLink "SeenToMoveLaw" (115 : Nat) ({ cls := "SeenToMoveModel", name := "few", desc := "()I" } : Jvm.MethodName)) ∈ zTT := zTT_in (List.mem_of_getElem? (i := 1801) (by decide +kernel)) rfl
theorem zk_1809 : (Jvm.Cond.methodLink "SeenToMoveLaw" (119 : Nat) ({ cls := "SeenToMoveModel", name := "fewest", desc := "()I" } : Jvm.MethodName)) ∈ zTT := zTT_in (List.mem_of_getElem? (i := 1809) (by decide +kernel)) rfl
theorem zk_1813 : (Jvm.Cond.methodLink "SeenToMoveLaw" (132 : Nat) ({ cls := "SeenToMoveModel", name := "fits", desc := "()I" } : Jvm.MethodName)) ∈ zTT := zTT_in (List.mem_of_getElem? (i := 1813) (by decide +kernel)) rfl
theorem zk_1840 : (Jvm.Cond.methodLink "SeenToMoveLaw" (136 : Nat) ({ cls := "SeenToMoveModel", name := "fitsAt", desc := "(I)I" } : Jvm.MethodName)) ∈ zTT := zTT_in (List.mem_of_getElem? (i := 1840) (by decide +kernel)) rfl
theorem zk_1844 : (Jvm.Cond.methodLink "SeenToMoveLaw" (140 : Nat) ({ cls := "SeenToMoveModel", name := "ask", desc := "()I" } : Jvm.MethodName)) ∈ zTT := zTT_in (List.mem_of_getElem? (i := 1844) (by decide +kernel)) rfl
theorem zk_1848 : (Jvm.Cond.methodLink "SeenToMoveLaw" (144 : Nat) ({ cls := "SeenToMoveModel", name := "grown", desc := "()I" } : Jvm.MethodName)) ∈ zTT := zTT_in (List.mem_of_getElem? (i := 1848) (by decide +kernel)) rfl
theorem zk_1857 : (Jvm.Cond.methodLink "SeenToMoveLaw" (148 : Nat) ({ cls := "SeenToMoveModel", name := "farthest", desc := "()I" } : Jvm.MethodName)) ∈ zTT := zTT_in (List.mem_of_getElem? (i := 1857) (by decide +kernel)) rfl
theorem zk_1861 : (Jvm.Cond.methodLink "SeenToMoveLaw" (152 : Nat) ({ cls := "SeenToMoveModel", name := "mean", desc := "(I)I" } : Jvm.MethodName)) ∈ zTT := zTT_in (List.mem_of_getElem? (i := 1861) (by decide +kernel)) rfl
theorem zk_1865 : (Jvm.Cond.methodLink "SeenToMoveLaw" (156 : Nat) ({ cls := "SeenToMoveModel", name := "line", desc := "(I)I" } : Jvm.MethodName)) ∈ zTT := zTT_in (List.mem_of_getElem? (i := 1865) (by decide +kernel)) rfl
theorem zk_1884 : (Jvm.Cond.methodLink "SeenToMoveLaw" (160 : Nat) ({ cls := "SeenToMoveModel", name := "byteAt", desc := "(I)I" } : Jvm.MethodName)) ∈ zTT := zTT_in (List.mem_of_getElem? (i := 1884) (by decide +kernel)) rfl
theorem zk_1888 : (Jvm.Cond.methodLink "SeenToMoveLaw" (164 : Nat) ({ cls := "SeenToMoveModel", name := "drawn", desc := "(II)I" } : Jvm.MethodName)) ∈ zTT := zTT_in (List.mem_of_getElem? (i := 1888) (by decide +kernel)) rfl
theorem zk_1905 : (Jvm.Cond.methodLink "SeenToMoveLaw" (168 : Nat) ({ cls := "SeenToMoveModel", name := "odds", desc := "(III)I" } : Jvm.MethodName)) ∈ zTT := zTT_in (List.mem_of_getElem? (i := 1905) (by decide +kernel)) rfl
theorem zk_1909 : (Jvm.Cond.methodLink "SeenToMoveLaw" (172 : Nat) ({ cls := "SeenToMoveModel", name := "book", desc := "(I)I" } : Jvm.MethodName)) ∈ zTT := zTT_in (List.mem_of_getElem? (i := 1909) (by decide +kernel)) rfl
theorem zk_1921 : (Jvm.Cond.methodLink "SeenToMoveLaw" (176 : Nat) ({ cls := "SeenToMoveModel", name := "told", desc := "(I)I" } : Jvm.MethodName)) ∈ zTT := zTT_in (List.mem_of_getElem? (i := 1921) (by decide +kernel)) rfl
theorem zk_1925 : (Jvm.Cond.methodLink "SeenToMoveLaw" (180 : Nat) ({ cls := "SeenToMoveModel", name := "sentence", desc := "()I" } : Jvm.MethodName)) ∈ zTT := zTT_in (List.mem_of_getElem? (i := 1925) (by decide +kernel)) rfl
theorem zk_1953 : (Jvm.Cond.methodLink "SeenToMoveLaw" (184 : Nat) ({ cls := "SeenToMoveModel", name := "said", desc := "(I)I" } : Jvm.MethodName)) ∈ zTT := zTT_in (List.mem_of_getElem? (i := 1953) (by decide +kernel)) rfl
theorem zk_1965 : (Jvm.Cond.methodLink "SeenToMoveLaw" (188 : Nat) ({ cls := "SeenToMoveModel", name := "image", desc := "(I)Z" } : Jvm.MethodName)) ∈ zTT := zTT_in (List.mem_of_getElem? (i := 1965) (by decide +kernel)) rfl
theorem zk_1969 : (Jvm.Cond.methodLink "SeenToMoveLaw" (192 : Nat) ({ cls := "SeenToMoveModel", name := "restore", desc := "(I)Z" } : Jvm.MethodName)) ∈ zTT := zTT_in (List.mem_of_getElem? (i := 1969) (by decide +kernel)) rfl
theorem zk_1973 : (Jvm.Cond.methodLink "SeenToMoveLaw" (196 : Nat) ({ cls := "SeenToMoveModel", name := "count", desc := "(I)I" } : Jvm.MethodName)) ∈ zTT := zTT_in (List.mem_of_getElem? (i := 1973) (by decide +kernel)) rfl
theorem dL_law_0 : decode cL_law 0 = .ok (.new 8, 3) := by decide +kernel
theorem dL_law_3 : decode cL_law 3 = .ok (.dup, 1) := by decide +kernel
theorem dL_law_4 : decode cL_law 4 = .ok (.invokespecial 19, 3) := by decide +kernel
theorem dL_law_7 : decode cL_law 7 = .ok (.astore_n 1, 1) := by decide +kernel
theorem dL_law_8 : decode cL_law 8 = .ok (.new 20, 3) := by decide +kernel
theorem dL_law_11 : decode cL_law 11 = .ok (.dup, 1) := by decide +kernel
theorem dL_law_12 : decode cL_law 12 = .ok (.invokespecial 22, 3) := by decide +kernel
theorem dL_law_15 : decode cL_law 15 = .ok (.astore_n 2, 1) := by decide +kernel
theorem dL_law_16 : decode cL_law 16 = .ok (.iconst 1, 1) := by decide +kernel
theorem dL_law_17 : decode cL_law 17 = .ok (.newarray .long, 2) := by decide +kernel
theorem dL_law_19 : decode cL_law 19 = .ok (.astore_n 3, 1) := by decide +kernel
theorem dL_law_20 : decode cL_law 20 = .ok (.iconst 0, 1) := by decide +kernel
theorem dL_law_21 : decode cL_law 21 = .ok (.istore 4, 2) := by decide +kernel
theorem dL_law_23 : decode cL_law 23 = .ok (.iload 4, 2) := by decide +kernel
theorem dL_law_25 : decode cL_law 25 = .ok (.aload_n 0, 1) := by decide +kernel
theorem dL_law_26 : decode cL_law 26 = .ok (.arraylength, 1) := by decide +kernel
theorem dL_law_27 : decode cL_law 27 = .ok (.bipush 6, 2) := by decide +kernel
theorem dL_law_29 : decode cL_law 29 = .ok (.isub, 1) := by decide +kernel
theorem dL_law_30 : decode cL_law 30 = .ok (.if_icmp .gt 1379, 3) := by decide +kernel
theorem dL_law_33 : decode cL_law 33 = .ok (.aload_n 0, 1) := by decide +kernel
theorem dL_law_34 : decode cL_law 34 = .ok (.iload 4, 2) := by decide +kernel
theorem dL_law_36 : decode cL_law 36 = .ok (.iaload, 1) := by decide +kernel
theorem dL_law_37 : decode cL_law 37 = .ok (.bipush 63, 2) := by decide +kernel
theorem dL_law_39 : decode cL_law 39 = .ok (.iand, 1) := by decide +kernel
theorem dL_law_40 : decode cL_law 40 = .ok (.tableswitch 1363 0 40 #[180, 253, 278, 291, 304, 372, 409, 458, 483, 508, 545, 582, 607, 632, 669, 694, 707, 744, 793, 806, 831, 844, 857, 918, 931, 944, 969, 982, 995, 1008, 1064, 1089, 1114, 1151, 1200, 1225, 1250, 1263, 1288, 1313, 1338], 180) := by decide +kernel
theorem dL_law_220 : decode cL_law 220 = .ok (.aload_n 1, 1) := by decide +kernel
theorem dL_law_221 : decode cL_law 221 = .ok (.aload_n 0, 1) := by decide +kernel
theorem dL_law_222 : decode cL_law 222 = .ok (.iload 4, 2) := by decide +kernel
theorem dL_law_224 : decode cL_law 224 = .ok (.iconst 1, 1) := by decide +kernel
theorem dL_law_225 : decode cL_law 225 = .ok (.iadd, 1) := by decide +kernel
theorem dL_law_226 : decode cL_law 226 = .ok (.iaload, 1) := by decide +kernel
theorem dL_law_227 : decode cL_law 227 = .ok (.aload_n 0, 1) := by decide +kernel
theorem dL_law_228 : decode cL_law 228 = .ok (.iload 4, 2) := by decide +kernel
theorem dL_law_230 : decode cL_law 230 = .ok (.iconst 2, 1) := by decide +kernel
theorem dL_law_231 : decode cL_law 231 = .ok (.iadd, 1) := by decide +kernel
theorem dL_law_232 : decode cL_law 232 = .ok (.iaload, 1) := by decide +kernel
theorem dL_law_233 : decode cL_law 233 = .ok (.aload_n 0, 1) := by decide +kernel
theorem dL_law_234 : decode cL_law 234 = .ok (.iload 4, 2) := by decide +kernel
theorem dL_law_236 : decode cL_law 236 = .ok (.iconst 3, 1) := by decide +kernel
theorem dL_law_237 : decode cL_law 237 = .ok (.iadd, 1) := by decide +kernel
theorem dL_law_238 : decode cL_law 238 = .ok (.iaload, 1) := by decide +kernel
theorem dL_law_239 : decode cL_law 239 = .ok (.aload_n 0, 1) := by decide +kernel
theorem dL_law_240 : decode cL_law 240 = .ok (.iload 4, 2) := by decide +kernel
theorem dL_law_242 : decode cL_law 242 = .ok (.iconst 4, 1) := by decide +kernel
theorem dL_law_243 : decode cL_law 243 = .ok (.iadd, 1) := by decide +kernel
theorem dL_law_244 : decode cL_law 244 = .ok (.iaload, 1) := by decide +kernel
theorem dL_law_245 : decode cL_law 245 = .ok (.aload_n 0, 1) := by decide +kernel
theorem dL_law_246 : decode cL_law 246 = .ok (.iload 4, 2) := by decide +kernel
theorem dL_law_248 : decode cL_law 248 = .ok (.iconst 5, 1) := by decide +kernel
theorem dL_law_249 : decode cL_law 249 = .ok (.iadd, 1) := by decide +kernel
theorem dL_law_250 : decode cL_law 250 = .ok (.iaload, 1) := by decide +kernel
theorem dL_law_251 : decode cL_law 251 = .ok (.invokevirtual 23, 3) := by decide +kernel
theorem dL_law_254 : decode cL_law 254 = .ok (.aload_n 2, 1) := by decide +kernel
theorem dL_law_255 : decode cL_law 255 = .ok (.aload_n 0, 1) := by decide +kernel
theorem dL_law_256 : decode cL_law 256 = .ok (.iload 4, 2) := by decide +kernel
theorem dL_law_258 : decode cL_law 258 = .ok (.iconst 1, 1) := by decide +kernel
theorem dL_law_259 : decode cL_law 259 = .ok (.iadd, 1) := by decide +kernel
theorem dL_law_260 : decode cL_law 260 = .ok (.iaload, 1) := by decide +kernel
theorem dL_law_261 : decode cL_law 261 = .ok (.aload_n 0, 1) := by decide +kernel
theorem dL_law_262 : decode cL_law 262 = .ok (.iload 4, 2) := by decide +kernel
theorem dL_law_264 : decode cL_law 264 = .ok (.iconst 2, 1) := by decide +kernel
theorem dL_law_265 : decode cL_law 265 = .ok (.iadd, 1) := by decide +kernel
theorem dL_law_266 : decode cL_law 266 = .ok (.iaload, 1) := by decide +kernel
theorem dL_law_267 : decode cL_law 267 = .ok (.aload_n 0, 1) := by decide +kernel
theorem dL_law_268 : decode cL_law 268 = .ok (.iload 4, 2) := by decide +kernel
theorem dL_law_270 : decode cL_law 270 = .ok (.iconst 3, 1) := by decide +kernel
theorem dL_law_271 : decode cL_law 271 = .ok (.iadd, 1) := by decide +kernel
theorem dL_law_272 : decode cL_law 272 = .ok (.iaload, 1) := by decide +kernel
theorem dL_law_273 : decode cL_law 273 = .ok (.aload_n 0, 1) := by decide +kernel
theorem dL_law_274 : decode cL_law 274 = .ok (.iload 4, 2) := by decide +kernel
theorem dL_law_276 : decode cL_law 276 = .ok (.iconst 4, 1) := by decide +kernel
theorem dL_law_277 : decode cL_law 277 = .ok (.iadd, 1) := by decide +kernel
theorem dL_law_278 : decode cL_law 278 = .ok (.iaload, 1) := by decide +kernel
theorem dL_law_279 : decode cL_law 279 = .ok (.aload_n 0, 1) := by decide +kernel
theorem dL_law_280 : decode cL_law 280 = .ok (.iload 4, 2) := by decide +kernel
theorem dL_law_282 : decode cL_law 282 = .ok (.iconst 5, 1) := by decide +kernel
theorem dL_law_283 : decode cL_law 283 = .ok (.iadd, 1) := by decide +kernel
theorem dL_law_284 : decode cL_law 284 = .ok (.iaload, 1) := by decide +kernel
theorem dL_law_285 : decode cL_law 285 = .ok (.invokevirtual 27, 3) := by decide +kernel
theorem dL_law_288 : decode cL_law 288 = .ok (.if_icmp .eq 1115, 3) := by decide +kernel
theorem dL_law_291 : decode cL_law 291 = .ok (.iconst 0, 1) := by decide +kernel
theorem dL_law_292 : decode cL_law 292 = .ok (.ireturn, 1) := by decide +kernel
theorem dL_law_293 : decode cL_law 293 = .ok (.aload_n 1, 1) := by decide +kernel
theorem dL_law_294 : decode cL_law 294 = .ok (.aload_n 0, 1) := by decide +kernel
theorem dL_law_295 : decode cL_law 295 = .ok (.iload 4, 2) := by decide +kernel
theorem dL_law_297 : decode cL_law 297 = .ok (.iconst 1, 1) := by decide +kernel
theorem dL_law_298 : decode cL_law 298 = .ok (.iadd, 1) := by decide +kernel
theorem dL_law_299 : decode cL_law 299 = .ok (.iaload, 1) := by decide +kernel
theorem dL_law_300 : decode cL_law 300 = .ok (.invokevirtual 28, 3) := by decide +kernel
theorem dL_law_303 : decode cL_law 303 = .ok (.aload_n 2, 1) := by decide +kernel
theorem dL_law_304 : decode cL_law 304 = .ok (.aload_n 0, 1) := by decide +kernel
theorem dL_law_305 : decode cL_law 305 = .ok (.iload 4, 2) := by decide +kernel
theorem dL_law_307 : decode cL_law 307 = .ok (.iconst 1, 1) := by decide +kernel
theorem dL_law_308 : decode cL_law 308 = .ok (.iadd, 1) := by decide +kernel
theorem dL_law_309 : decode cL_law 309 = .ok (.iaload, 1) := by decide +kernel
theorem dL_law_310 : decode cL_law 310 = .ok (.invokevirtual 32, 3) := by decide +kernel
theorem dL_law_313 : decode cL_law 313 = .ok (.if_icmp .eq 1090, 3) := by decide +kernel
theorem dL_law_316 : decode cL_law 316 = .ok (.iconst 0, 1) := by decide +kernel
theorem dL_law_317 : decode cL_law 317 = .ok (.ireturn, 1) := by decide +kernel
theorem dL_law_318 : decode cL_law 318 = .ok (.aload_n 1, 1) := by decide +kernel
theorem dL_law_319 : decode cL_law 319 = .ok (.invokevirtual 33, 3) := by decide +kernel
theorem dL_law_322 : decode cL_law 322 = .ok (.aload_n 2, 1) := by decide +kernel
theorem dL_law_323 : decode cL_law 323 = .ok (.invokevirtual 37, 3) := by decide +kernel
theorem dL_law_326 : decode cL_law 326 = .ok (.if_icmp .eq 1077, 3) := by decide +kernel
theorem dL_law_329 : decode cL_law 329 = .ok (.iconst 0, 1) := by decide +kernel
theorem dL_law_330 : decode cL_law 330 = .ok (.ireturn, 1) := by decide +kernel
theorem dL_law_331 : decode cL_law 331 = .ok (.aload_n 1, 1) := by decide +kernel
theorem dL_law_332 : decode cL_law 332 = .ok (.invokevirtual 38, 3) := by decide +kernel
theorem dL_law_335 : decode cL_law 335 = .ok (.aload_n 2, 1) := by decide +kernel
theorem dL_law_336 : decode cL_law 336 = .ok (.invokevirtual 41, 3) := by decide +kernel
theorem dL_law_339 : decode cL_law 339 = .ok (.if_icmp .eq 1064, 3) := by decide +kernel
theorem dL_law_342 : decode cL_law 342 = .ok (.iconst 0, 1) := by decide +kernel
theorem dL_law_343 : decode cL_law 343 = .ok (.ireturn, 1) := by decide +kernel
theorem dL_law_344 : decode cL_law 344 = .ok (.aload_n 1, 1) := by decide +kernel
theorem dL_law_345 : decode cL_law 345 = .ok (.aload_n 0, 1) := by decide +kernel
theorem dL_law_346 : decode cL_law 346 = .ok (.iload 4, 2) := by decide +kernel
theorem dL_law_348 : decode cL_law 348 = .ok (.iconst 1, 1) := by decide +kernel
theorem dL_law_349 : decode cL_law 349 = .ok (.iadd, 1) := by decide +kernel
theorem dL_law_350 : decode cL_law 350 = .ok (.iaload, 1) := by decide +kernel
theorem dL_law_351 : decode cL_law 351 = .ok (.aload_n 0, 1) := by decide +kernel
theorem dL_law_352 : decode cL_law 352 = .ok (.iload 4, 2) := by decide +kernel
theorem dL_law_354 : decode cL_law 354 = .ok (.iconst 2, 1) := by decide +kernel
theorem dL_law_355 : decode cL_law 355 = .ok (.iadd, 1) := by decide +kernel
theorem dL_law_356 : decode cL_law 356 = .ok (.iaload, 1) := by decide +kernel
theorem dL_law_357 : decode cL_law 357 = .ok (.aload_n 3, 1) := by decide +kernel
theorem dL_law_358 : decode cL_law 358 = .ok (.invokestatic 42, 3) := by decide +kernel
theorem dL_law_361 : decode cL_law 361 = .ok (.istore 5, 2) := by decide +kernel
theorem dL_law_363 : decode cL_law 363 = .ok (.aload_n 2, 1) := by decide +kernel
theorem dL_law_364 : decode cL_law 364 = .ok (.aload_n 0, 1) := by decide +kernel
theorem dL_law_365 : decode cL_law 365 = .ok (.iload 4, 2) := by decide +kernel
theorem dL_law_367 : decode cL_law 367 = .ok (.iconst 1, 1) := by decide +kernel
theorem dL_law_368 : decode cL_law 368 = .ok (.iadd, 1) := by decide +kernel
theorem dL_law_369 : decode cL_law 369 = .ok (.iaload, 1) := by decide +kernel
theorem dL_law_370 : decode cL_law 370 = .ok (.aload_n 0, 1) := by decide +kernel
theorem dL_law_371 : decode cL_law 371 = .ok (.iload 4, 2) := by decide +kernel
theorem dL_law_373 : decode cL_law 373 = .ok (.iconst 2, 1) := by decide +kernel
theorem dL_law_374 : decode cL_law 374 = .ok (.iadd, 1) := by decide +kernel
theorem dL_law_375 : decode cL_law 375 = .ok (.iaload, 1) := by decide +kernel
theorem dL_law_376 : decode cL_law 376 = .ok (.invokevirtual 47, 3) := by decide +kernel
theorem dL_law_379 : decode cL_law 379 = .ok (.istore 6, 2) := by decide +kernel
theorem dL_law_381 : decode cL_law 381 = .ok (.aload_n 2, 1) := by decide +kernel
theorem dL_law_382 : decode cL_law 382 = .ok (.invokevirtual 48, 3) := by decide +kernel
theorem dL_law_385 : decode cL_law 385 = .ok (.iload 5, 2) := by decide +kernel
theorem dL_law_387 : decode cL_law 387 = .ok (.if_icmp .eq 5, 3) := by decide +kernel
theorem dL_law_390 : decode cL_law 390 = .ok (.iconst 0, 1) := by decide +kernel
theorem dL_law_391 : decode cL_law 391 = .ok (.ireturn, 1) := by decide +kernel
theorem dL_law_392 : decode cL_law 392 = .ok (.iload 5, 2) := by decide +kernel
theorem dL_law_394 : decode cL_law 394 = .ok (.ifCond .ne 15, 3) := by decide +kernel
theorem dL_law_397 : decode cL_law 397 = .ok (.aload_n 3, 1) := by decide +kernel
theorem dL_law_398 : decode cL_law 398 = .ok (.iconst 0, 1) := by decide +kernel
theorem dL_law_399 : decode cL_law 399 = .ok (.laload, 1) := by decide +kernel
theorem dL_law_400 : decode cL_law 400 = .ok (.iload 6, 2) := by decide +kernel
theorem dL_law_402 : decode cL_law 402 = .ok (.i2l, 1) := by decide +kernel
theorem dL_law_403 : decode cL_law 403 = .ok (.lcmp, 1) := by decide +kernel
theorem dL_law_404 : decode cL_law 404 = .ok (.ifCond .eq 5, 3) := by decide +kernel
theorem dL_law_407 : decode cL_law 407 = .ok (.iconst 0, 1) := by decide +kernel
theorem dL_law_408 : decode cL_law 408 = .ok (.ireturn, 1) := by decide +kernel
theorem dL_law_409 : decode cL_law 409 = .ok (.goto 994, 3) := by decide +kernel
theorem dL_law_412 : decode cL_law 412 = .ok (.aload_n 1, 1) := by decide +kernel
theorem dL_law_413 : decode cL_law 413 = .ok (.aload_n 0, 1) := by decide +kernel
theorem dL_law_414 : decode cL_law 414 = .ok (.iload 4, 2) := by decide +kernel
theorem dL_law_416 : decode cL_law 416 = .ok (.iconst 1, 1) := by decide +kernel
theorem dL_law_417 : decode cL_law 417 = .ok (.iadd, 1) := by decide +kernel
theorem dL_law_418 : decode cL_law 418 = .ok (.iaload, 1) := by decide +kernel
theorem dL_law_419 : decode cL_law 419 = .ok (.aload_n 0, 1) := by decide +kernel
theorem dL_law_420 : decode cL_law 420 = .ok (.iload 4, 2) := by decide +kernel
theorem dL_law_422 : decode cL_law 422 = .ok (.iconst 2, 1) := by decide +kernel
theorem dL_law_423 : decode cL_law 423 = .ok (.iadd, 1) := by decide +kernel
theorem dL_law_424 : decode cL_law 424 = .ok (.iaload, 1) := by decide +kernel
theorem dL_law_425 : decode cL_law 425 = .ok (.invokevirtual 51, 3) := by decide +kernel
theorem dL_law_428 : decode cL_law 428 = .ok (.aload_n 2, 1) := by decide +kernel
theorem dL_law_429 : decode cL_law 429 = .ok (.aload_n 0, 1) := by decide +kernel
theorem dL_law_430 : decode cL_law 430 = .ok (.iload 4, 2) := by decide +kernel
theorem dL_law_432 : decode cL_law 432 = .ok (.iconst 1, 1) := by decide +kernel
theorem dL_law_433 : decode cL_law 433 = .ok (.iadd, 1) := by decide +kernel
theorem dL_law_434 : decode cL_law 434 = .ok (.iaload, 1) := by decide +kernel
theorem dL_law_435 : decode cL_law 435 = .ok (.aload_n 0, 1) := by decide +kernel
theorem dL_law_436 : decode cL_law 436 = .ok (.iload 4, 2) := by decide +kernel
theorem dL_law_438 : decode cL_law 438 = .ok (.iconst 2, 1) := by decide +kernel
theorem dL_law_439 : decode cL_law 439 = .ok (.iadd, 1) := by decide +kernel
theorem dL_law_440 : decode cL_law 440 = .ok (.iaload, 1) := by decide +kernel
theorem dL_law_441 : decode cL_law 441 = .ok (.invokevirtual 54, 3) := by decide +kernel
theorem dL_law_444 : decode cL_law 444 = .ok (.if_icmp .eq 959, 3) := by decide +kernel
theorem dL_law_447 : decode cL_law 447 = .ok (.iconst 0, 1) := by decide +kernel
theorem dL_law_448 : decode cL_law 448 = .ok (.ireturn, 1) := by decide +kernel
theorem dL_law_449 : decode cL_law 449 = .ok (.aload_n 1, 1) := by decide +kernel
theorem dL_law_450 : decode cL_law 450 = .ok (.aload_n 0, 1) := by decide +kernel
theorem dL_law_451 : decode cL_law 451 = .ok (.iload 4, 2) := by decide +kernel
theorem dL_law_453 : decode cL_law 453 = .ok (.iconst 1, 1) := by decide +kernel
theorem dL_law_454 : decode cL_law 454 = .ok (.iadd, 1) := by decide +kernel
theorem dL_law_455 : decode cL_law 455 = .ok (.iaload, 1) := by decide +kernel
theorem dL_law_456 : decode cL_law 456 = .ok (.aload_n 0, 1) := by decide +kernel
theorem dL_law_457 : decode cL_law 457 = .ok (.iload 4, 2) := by decide +kernel
theorem dL_law_459 : decode cL_law 459 = .ok (.iconst 2, 1) := by decide +kernel
theorem dL_law_460 : decode cL_law 460 = .ok (.iadd, 1) := by decide +kernel
theorem dL_law_461 : decode cL_law 461 = .ok (.iaload, 1) := by decide +kernel
theorem dL_law_462 : decode cL_law 462 = .ok (.aload_n 0, 1) := by decide +kernel
theorem dL_law_463 : decode cL_law 463 = .ok (.iload 4, 2) := by decide +kernel
theorem dL_law_465 : decode cL_law 465 = .ok (.iconst 3, 1) := by decide +kernel
theorem dL_law_466 : decode cL_law 466 = .ok (.iadd, 1) := by decide +kernel
theorem dL_law_467 : decode cL_law 467 = .ok (.iaload, 1) := by decide +kernel
theorem dL_law_468 : decode cL_law 468 = .ok (.invokevirtual 55, 3) := by decide +kernel
theorem dL_law_471 : decode cL_law 471 = .ok (.aload_n 2, 1) := by decide +kernel
theorem dL_law_472 : decode cL_law 472 = .ok (.aload_n 0, 1) := by decide +kernel
theorem dL_law_473 : decode cL_law 473 = .ok (.iload 4, 2) := by decide +kernel
theorem dL_law_475 : decode cL_law 475 = .ok (.iconst 1, 1) := by decide +kernel
theorem dL_law_476 : decode cL_law 476 = .ok (.iadd, 1) := by decide +kernel
theorem dL_law_477 : decode cL_law 477 = .ok (.iaload, 1) := by decide +kernel
theorem dL_law_478 : decode cL_law 478 = .ok (.aload_n 0, 1) := by decide +kernel
theorem dL_law_479 : decode cL_law 479 = .ok (.iload 4, 2) := by decide +kernel
theorem dL_law_481 : decode cL_law 481 = .ok (.iconst 2, 1) := by decide +kernel
theorem dL_law_482 : decode cL_law 482 = .ok (.iadd, 1) := by decide +kernel
theorem dL_law_483 : decode cL_law 483 = .ok (.iaload, 1) := by decide +kernel
theorem dL_law_484 : decode cL_law 484 = .ok (.aload_n 0, 1) := by decide +kernel
theorem dL_law_485 : decode cL_law 485 = .ok (.iload 4, 2) := by decide +kernel
theorem dL_law_487 : decode cL_law 487 = .ok (.iconst 3, 1) := by decide +kernel
theorem dL_law_488 : decode cL_law 488 = .ok (.iadd, 1) := by decide +kernel
theorem dL_law_489 : decode cL_law 489 = .ok (.iaload, 1) := by decide +kernel
theorem dL_law_490 : decode cL_law 490 = .ok (.invokevirtual 59, 3) := by decide +kernel
theorem dL_law_493 : decode cL_law 493 = .ok (.if_icmp .eq 910, 3) := by decide +kernel
theorem dL_law_496 : decode cL_law 496 = .ok (.iconst 0, 1) := by decide +kernel
theorem dL_law_497 : decode cL_law 497 = .ok (.ireturn, 1) := by decide +kernel
theorem dL_law_498 : decode cL_law 498 = .ok (.aload_n 1, 1) := by decide +kernel
theorem dL_law_499 : decode cL_law 499 = .ok (.aload_n 0, 1) := by decide +kernel
theorem dL_law_500 : decode cL_law 500 = .ok (.iload 4, 2) := by decide +kernel
theorem dL_law_502 : decode cL_law 502 = .ok (.iconst 1, 1) := by decide +kernel
theorem dL_law_503 : decode cL_law 503 = .ok (.iadd, 1) := by decide +kernel
theorem dL_law_504 : decode cL_law 504 = .ok (.iaload, 1) := by decide +kernel
theorem dL_law_505 : decode cL_law 505 = .ok (.invokevirtual 60, 3) := by decide +kernel
theorem dL_law_508 : decode cL_law 508 = .ok (.aload_n 2, 1) := by decide +kernel
theorem dL_law_509 : decode cL_law 509 = .ok (.aload_n 0, 1) := by decide +kernel
theorem dL_law_510 : decode cL_law 510 = .ok (.iload 4, 2) := by decide +kernel
theorem dL_law_512 : decode cL_law 512 = .ok (.iconst 1, 1) := by decide +kernel
theorem dL_law_513 : decode cL_law 513 = .ok (.iadd, 1) := by decide +kernel
theorem dL_law_514 : decode cL_law 514 = .ok (.iaload, 1) := by decide +kernel
theorem dL_law_515 : decode cL_law 515 = .ok (.invokevirtual 63, 3) := by decide +kernel
theorem dL_law_518 : decode cL_law 518 = .ok (.if_icmp .eq 885, 3) := by decide +kernel
theorem dL_law_521 : decode cL_law 521 = .ok (.iconst 0, 1) := by decide +kernel
theorem dL_law_522 : decode cL_law 522 = .ok (.ireturn, 1) := by decide +kernel
theorem dL_law_523 : decode cL_law 523 = .ok (.aload_n 1, 1) := by decide +kernel
theorem dL_law_524 : decode cL_law 524 = .ok (.aload_n 0, 1) := by decide +kernel
theorem dL_law_525 : decode cL_law 525 = .ok (.iload 4, 2) := by decide +kernel
theorem dL_law_527 : decode cL_law 527 = .ok (.iconst 1, 1) := by decide +kernel
theorem dL_law_528 : decode cL_law 528 = .ok (.iadd, 1) := by decide +kernel
theorem dL_law_529 : decode cL_law 529 = .ok (.iaload, 1) := by decide +kernel
theorem dL_law_530 : decode cL_law 530 = .ok (.invokevirtual 64, 3) := by decide +kernel
theorem dL_law_533 : decode cL_law 533 = .ok (.aload_n 2, 1) := by decide +kernel
theorem dL_law_534 : decode cL_law 534 = .ok (.aload_n 0, 1) := by decide +kernel
theorem dL_law_535 : decode cL_law 535 = .ok (.iload 4, 2) := by decide +kernel
theorem dL_law_537 : decode cL_law 537 = .ok (.iconst 1, 1) := by decide +kernel
theorem dL_law_538 : decode cL_law 538 = .ok (.iadd, 1) := by decide +kernel
theorem dL_law_539 : decode cL_law 539 = .ok (.iaload, 1) := by decide +kernel
theorem dL_law_540 : decode cL_law 540 = .ok (.invokevirtual 67, 3) := by decide +kernel
theorem dL_law_543 : decode cL_law 543 = .ok (.if_icmp .eq 860, 3) := by decide +kernel
theorem dL_law_546 : decode cL_law 546 = .ok (.iconst 0, 1) := by decide +kernel
theorem dL_law_547 : decode cL_law 547 = .ok (.ireturn, 1) := by decide +kernel
theorem dL_law_548 : decode cL_law 548 = .ok (.aload_n 1, 1) := by decide +kernel
theorem dL_law_549 : decode cL_law 549 = .ok (.aload_n 0, 1) := by decide +kernel
theorem dL_law_550 : decode cL_law 550 = .ok (.iload 4, 2) := by decide +kernel
theorem dL_law_552 : decode cL_law 552 = .ok (.iconst 1, 1) := by decide +kernel
theorem dL_law_553 : decode cL_law 553 = .ok (.iadd, 1) := by decide +kernel
theorem dL_law_554 : decode cL_law 554 = .ok (.iaload, 1) := by decide +kernel
theorem dL_law_555 : decode cL_law 555 = .ok (.aload_n 0, 1) := by decide +kernel
theorem dL_law_556 : decode cL_law 556 = .ok (.iload 4, 2) := by decide +kernel
theorem dL_law_558 : decode cL_law 558 = .ok (.iconst 2, 1) := by decide +kernel
theorem dL_law_559 : decode cL_law 559 = .ok (.iadd, 1) := by decide +kernel
theorem dL_law_560 : decode cL_law 560 = .ok (.iaload, 1) := by decide +kernel
theorem dL_law_561 : decode cL_law 561 = .ok (.invokevirtual 68, 3) := by decide +kernel
theorem dL_law_564 : decode cL_law 564 = .ok (.aload_n 2, 1) := by decide +kernel
theorem dL_law_565 : decode cL_law 565 = .ok (.aload_n 0, 1) := by decide +kernel
theorem dL_law_566 : decode cL_law 566 = .ok (.iload 4, 2) := by decide +kernel
theorem dL_law_568 : decode cL_law 568 = .ok (.iconst 1, 1) := by decide +kernel
theorem dL_law_569 : decode cL_law 569 = .ok (.iadd, 1) := by decide +kernel
theorem dL_law_570 : decode cL_law 570 = .ok (.iaload, 1) := by decide +kernel
theorem dL_law_571 : decode cL_law 571 = .ok (.aload_n 0, 1) := by decide +kernel
theorem dL_law_572 : decode cL_law 572 = .ok (.iload 4, 2) := by decide +kernel
theorem dL_law_574 : decode cL_law 574 = .ok (.iconst 2, 1) := by decide +kernel
theorem dL_law_575 : decode cL_law 575 = .ok (.iadd, 1) := by decide +kernel
theorem dL_law_576 : decode cL_law 576 = .ok (.iaload, 1) := by decide +kernel
theorem dL_law_577 : decode cL_law 577 = .ok (.invokevirtual 71, 3) := by decide +kernel
theorem dL_law_580 : decode cL_law 580 = .ok (.if_icmp .eq 823, 3) := by decide +kernel
theorem dL_law_583 : decode cL_law 583 = .ok (.iconst 0, 1) := by decide +kernel
theorem dL_law_584 : decode cL_law 584 = .ok (.ireturn, 1) := by decide +kernel
theorem dL_law_585 : decode cL_law 585 = .ok (.aload_n 1, 1) := by decide +kernel
theorem dL_law_586 : decode cL_law 586 = .ok (.aload_n 0, 1) := by decide +kernel
theorem dL_law_587 : decode cL_law 587 = .ok (.iload 4, 2) := by decide +kernel
theorem dL_law_589 : decode cL_law 589 = .ok (.iconst 1, 1) := by decide +kernel
theorem dL_law_590 : decode cL_law 590 = .ok (.iadd, 1) := by decide +kernel
theorem dL_law_591 : decode cL_law 591 = .ok (.iaload, 1) := by decide +kernel
theorem dL_law_592 : decode cL_law 592 = .ok (.aload_n 0, 1) := by decide +kernel
theorem dL_law_593 : decode cL_law 593 = .ok (.iload 4, 2) := by decide +kernel
theorem dL_law_595 : decode cL_law 595 = .ok (.iconst 2, 1) := by decide +kernel
theorem dL_law_596 : decode cL_law 596 = .ok (.iadd, 1) := by decide +kernel
theorem dL_law_597 : decode cL_law 597 = .ok (.iaload, 1) := by decide +kernel
theorem dL_law_598 : decode cL_law 598 = .ok (.invokevirtual 72, 3) := by decide +kernel
theorem dL_law_601 : decode cL_law 601 = .ok (.aload_n 2, 1) := by decide +kernel
theorem dL_law_602 : decode cL_law 602 = .ok (.aload_n 0, 1) := by decide +kernel
theorem dL_law_603 : decode cL_law 603 = .ok (.iload 4, 2) := by decide +kernel
theorem dL_law_605 : decode cL_law 605 = .ok (.iconst 1, 1) := by decide +kernel
theorem dL_law_606 : decode cL_law 606 = .ok (.iadd, 1) := by decide +kernel
theorem dL_law_607 : decode cL_law 607 = .ok (.iaload, 1) := by decide +kernel
theorem dL_law_608 : decode cL_law 608 = .ok (.aload_n 0, 1) := by decide +kernel
theorem dL_law_609 : decode cL_law 609 = .ok (.iload 4, 2) := by decide +kernel
theorem dL_law_611 : decode cL_law 611 = .ok (.iconst 2, 1) := by decide +kernel
theorem dL_law_612 : decode cL_law 612 = .ok (.iadd, 1) := by decide +kernel
theorem dL_law_613 : decode cL_law 613 = .ok (.iaload, 1) := by decide +kernel
theorem dL_law_614 : decode cL_law 614 = .ok (.invokevirtual 75, 3) := by decide +kernel
theorem dL_law_617 : decode cL_law 617 = .ok (.if_icmp .eq 786, 3) := by decide +kernel
theorem dL_law_620 : decode cL_law 620 = .ok (.iconst 0, 1) := by decide +kernel
theorem dL_law_621 : decode cL_law 621 = .ok (.ireturn, 1) := by decide +kernel
theorem dL_law_622 : decode cL_law 622 = .ok (.aload_n 1, 1) := by decide +kernel
theorem dL_law_623 : decode cL_law 623 = .ok (.aload_n 0, 1) := by decide +kernel
theorem dL_law_624 : decode cL_law 624 = .ok (.iload 4, 2) := by decide +kernel
theorem dL_law_626 : decode cL_law 626 = .ok (.iconst 1, 1) := by decide +kernel
theorem dL_law_627 : decode cL_law 627 = .ok (.iadd, 1) := by decide +kernel
theorem dL_law_628 : decode cL_law 628 = .ok (.iaload, 1) := by decide +kernel
theorem dL_law_629 : decode cL_law 629 = .ok (.invokevirtual 76, 3) := by decide +kernel
theorem dL_law_632 : decode cL_law 632 = .ok (.aload_n 2, 1) := by decide +kernel
theorem dL_law_633 : decode cL_law 633 = .ok (.aload_n 0, 1) := by decide +kernel
theorem dL_law_634 : decode cL_law 634 = .ok (.iload 4, 2) := by decide +kernel
theorem dL_law_636 : decode cL_law 636 = .ok (.iconst 1, 1) := by decide +kernel
theorem dL_law_637 : decode cL_law 637 = .ok (.iadd, 1) := by decide +kernel
theorem dL_law_638 : decode cL_law 638 = .ok (.iaload, 1) := by decide +kernel
theorem dL_law_639 : decode cL_law 639 = .ok (.invokevirtual 79, 3) := by decide +kernel
theorem dL_law_642 : decode cL_law 642 = .ok (.if_icmp .eq 761, 3) := by decide +kernel
theorem dL_law_645 : decode cL_law 645 = .ok (.iconst 0, 1) := by decide +kernel
theorem dL_law_646 : decode cL_law 646 = .ok (.ireturn, 1) := by decide +kernel
theorem dL_law_647 : decode cL_law 647 = .ok (.aload_n 1, 1) := by decide +kernel
theorem dL_law_648 : decode cL_law 648 = .ok (.aload_n 0, 1) := by decide +kernel
theorem dL_law_649 : decode cL_law 649 = .ok (.iload 4, 2) := by decide +kernel
theorem dL_law_651 : decode cL_law 651 = .ok (.iconst 1, 1) := by decide +kernel
theorem dL_law_652 : decode cL_law 652 = .ok (.iadd, 1) := by decide +kernel
theorem dL_law_653 : decode cL_law 653 = .ok (.iaload, 1) := by decide +kernel
theorem dL_law_654 : decode cL_law 654 = .ok (.invokevirtual 80, 3) := by decide +kernel
theorem dL_law_657 : decode cL_law 657 = .ok (.aload_n 2, 1) := by decide +kernel
theorem dL_law_658 : decode cL_law 658 = .ok (.aload_n 0, 1) := by decide +kernel
theorem dL_law_659 : decode cL_law 659 = .ok (.iload 4, 2) := by decide +kernel
theorem dL_law_661 : decode cL_law 661 = .ok (.iconst 1, 1) := by decide +kernel
theorem dL_law_662 : decode cL_law 662 = .ok (.iadd, 1) := by decide +kernel
theorem dL_law_663 : decode cL_law 663 = .ok (.iaload, 1) := by decide +kernel
theorem dL_law_664 : decode cL_law 664 = .ok (.invokevirtual 83, 3) := by decide +kernel
theorem dL_law_667 : decode cL_law 667 = .ok (.if_icmp .eq 736, 3) := by decide +kernel
theorem dL_law_670 : decode cL_law 670 = .ok (.iconst 0, 1) := by decide +kernel
theorem dL_law_671 : decode cL_law 671 = .ok (.ireturn, 1) := by decide +kernel
theorem dL_law_672 : decode cL_law 672 = .ok (.aload_n 1, 1) := by decide +kernel
theorem dL_law_673 : decode cL_law 673 = .ok (.aload_n 0, 1) := by decide +kernel
theorem dL_law_674 : decode cL_law 674 = .ok (.iload 4, 2) := by decide +kernel
theorem dL_law_676 : decode cL_law 676 = .ok (.iconst 1, 1) := by decide +kernel
theorem dL_law_677 : decode cL_law 677 = .ok (.iadd, 1) := by decide +kernel
theorem dL_law_678 : decode cL_law 678 = .ok (.iaload, 1) := by decide +kernel
theorem dL_law_679 : decode cL_law 679 = .ok (.aload_n 0, 1) := by decide +kernel
theorem dL_law_680 : decode cL_law 680 = .ok (.iload 4, 2) := by decide +kernel
theorem dL_law_682 : decode cL_law 682 = .ok (.iconst 2, 1) := by decide +kernel
theorem dL_law_683 : decode cL_law 683 = .ok (.iadd, 1) := by decide +kernel
theorem dL_law_684 : decode cL_law 684 = .ok (.iaload, 1) := by decide +kernel
theorem dL_law_685 : decode cL_law 685 = .ok (.invokevirtual 84, 3) := by decide +kernel
theorem dL_law_688 : decode cL_law 688 = .ok (.aload_n 2, 1) := by decide +kernel
theorem dL_law_689 : decode cL_law 689 = .ok (.aload_n 0, 1) := by decide +kernel
theorem dL_law_690 : decode cL_law 690 = .ok (.iload 4, 2) := by decide +kernel
theorem dL_law_692 : decode cL_law 692 = .ok (.iconst 1, 1) := by decide +kernel
theorem dL_law_693 : decode cL_law 693 = .ok (.iadd, 1) := by decide +kernel
theorem dL_law_694 : decode cL_law 694 = .ok (.iaload, 1) := by decide +kernel
theorem dL_law_695 : decode cL_law 695 = .ok (.aload_n 0, 1) := by decide +kernel
theorem dL_law_696 : decode cL_law 696 = .ok (.iload 4, 2) := by decide +kernel
theorem dL_law_698 : decode cL_law 698 = .ok (.iconst 2, 1) := by decide +kernel
theorem dL_law_699 : decode cL_law 699 = .ok (.iadd, 1) := by decide +kernel
theorem dL_law_700 : decode cL_law 700 = .ok (.iaload, 1) := by decide +kernel
theorem dL_law_701 : decode cL_law 701 = .ok (.invokevirtual 87, 3) := by decide +kernel
theorem dL_law_704 : decode cL_law 704 = .ok (.if_icmp .eq 699, 3) := by decide +kernel
theorem dL_law_707 : decode cL_law 707 = .ok (.iconst 0, 1) := by decide +kernel
theorem dL_law_708 : decode cL_law 708 = .ok (.ireturn, 1) := by decide +kernel
theorem dL_law_709 : decode cL_law 709 = .ok (.aload_n 1, 1) := by decide +kernel
theorem dL_law_710 : decode cL_law 710 = .ok (.aload_n 0, 1) := by decide +kernel
theorem dL_law_711 : decode cL_law 711 = .ok (.iload 4, 2) := by decide +kernel
theorem dL_law_713 : decode cL_law 713 = .ok (.iconst 1, 1) := by decide +kernel
theorem dL_law_714 : decode cL_law 714 = .ok (.iadd, 1) := by decide +kernel
theorem dL_law_715 : decode cL_law 715 = .ok (.iaload, 1) := by decide +kernel
theorem dL_law_716 : decode cL_law 716 = .ok (.invokevirtual 88, 3) := by decide +kernel
theorem dL_law_719 : decode cL_law 719 = .ok (.aload_n 2, 1) := by decide +kernel
theorem dL_law_720 : decode cL_law 720 = .ok (.aload_n 0, 1) := by decide +kernel
theorem dL_law_721 : decode cL_law 721 = .ok (.iload 4, 2) := by decide +kernel
theorem dL_law_723 : decode cL_law 723 = .ok (.iconst 1, 1) := by decide +kernel
theorem dL_law_724 : decode cL_law 724 = .ok (.iadd, 1) := by decide +kernel
theorem dL_law_725 : decode cL_law 725 = .ok (.iaload, 1) := by decide +kernel
theorem dL_law_726 : decode cL_law 726 = .ok (.invokevirtual 91, 3) := by decide +kernel
theorem dL_law_729 : decode cL_law 729 = .ok (.if_icmp .eq 674, 3) := by decide +kernel
theorem dL_law_732 : decode cL_law 732 = .ok (.iconst 0, 1) := by decide +kernel
theorem dL_law_733 : decode cL_law 733 = .ok (.ireturn, 1) := by decide +kernel
theorem dL_law_734 : decode cL_law 734 = .ok (.aload_n 1, 1) := by decide +kernel
theorem dL_law_735 : decode cL_law 735 = .ok (.invokevirtual 92, 3) := by decide +kernel
theorem dL_law_738 : decode cL_law 738 = .ok (.aload_n 2, 1) := by decide +kernel
theorem dL_law_739 : decode cL_law 739 = .ok (.invokevirtual 95, 3) := by decide +kernel
theorem dL_law_742 : decode cL_law 742 = .ok (.if_icmp .eq 661, 3) := by decide +kernel
theorem dL_law_745 : decode cL_law 745 = .ok (.iconst 0, 1) := by decide +kernel
theorem dL_law_746 : decode cL_law 746 = .ok (.ireturn, 1) := by decide +kernel
theorem dL_law_747 : decode cL_law 747 = .ok (.aload_n 1, 1) := by decide +kernel
theorem dL_law_748 : decode cL_law 748 = .ok (.aload_n 0, 1) := by decide +kernel
theorem dL_law_749 : decode cL_law 749 = .ok (.iload 4, 2) := by decide +kernel
theorem dL_law_751 : decode cL_law 751 = .ok (.iconst 1, 1) := by decide +kernel
theorem dL_law_752 : decode cL_law 752 = .ok (.iadd, 1) := by decide +kernel
theorem dL_law_753 : decode cL_law 753 = .ok (.iaload, 1) := by decide +kernel
theorem dL_law_754 : decode cL_law 754 = .ok (.aload_n 0, 1) := by decide +kernel
theorem dL_law_755 : decode cL_law 755 = .ok (.iload 4, 2) := by decide +kernel
theorem dL_law_757 : decode cL_law 757 = .ok (.iconst 2, 1) := by decide +kernel
theorem dL_law_758 : decode cL_law 758 = .ok (.iadd, 1) := by decide +kernel
theorem dL_law_759 : decode cL_law 759 = .ok (.iaload, 1) := by decide +kernel
theorem dL_law_760 : decode cL_law 760 = .ok (.invokevirtual 96, 3) := by decide +kernel
theorem dL_law_763 : decode cL_law 763 = .ok (.aload_n 2, 1) := by decide +kernel
theorem dL_law_764 : decode cL_law 764 = .ok (.aload_n 0, 1) := by decide +kernel
theorem dL_law_765 : decode cL_law 765 = .ok (.iload 4, 2) := by decide +kernel
theorem dL_law_767 : decode cL_law 767 = .ok (.iconst 1, 1) := by decide +kernel
theorem dL_law_768 : decode cL_law 768 = .ok (.iadd, 1) := by decide +kernel
theorem dL_law_769 : decode cL_law 769 = .ok (.iaload, 1) := by decide +kernel
theorem dL_law_770 : decode cL_law 770 = .ok (.aload_n 0, 1) := by decide +kernel
theorem dL_law_771 : decode cL_law 771 = .ok (.iload 4, 2) := by decide +kernel
theorem dL_law_773 : decode cL_law 773 = .ok (.iconst 2, 1) := by decide +kernel
theorem dL_law_774 : decode cL_law 774 = .ok (.iadd, 1) := by decide +kernel
theorem dL_law_775 : decode cL_law 775 = .ok (.iaload, 1) := by decide +kernel
theorem dL_law_776 : decode cL_law 776 = .ok (.invokevirtual 99, 3) := by decide +kernel
theorem dL_law_779 : decode cL_law 779 = .ok (.if_icmp .eq 624, 3) := by decide +kernel
