theorem cx_t1 {w : Cond} (i : Nat) (h9 : tables_1_1[i]? = some w) (hg : goodWord w = true) : w ∈ cx_G := cx_inW (List.mem_append_right _ (by have h := List.mem_of_getElem? h9; exact List.mem_append_left _ h)) hg
theorem cx_t2 {w : Cond} (i : Nat) (h9 : tables_1_2[i]? = some w) (hg : goodWord w = true) : w ∈ cx_G := cx_inW (List.mem_append_right _ (by have h := List.mem_of_getElem? h9; exact List.mem_append_right _ (List.mem_append_left _ h))) hg
theorem cx_t3 {w : Cond} (i : Nat) (h9 : tables_1_3[i]? = some w) (hg : goodWord w = true) : w ∈ cx_G := cx_inW (List.mem_append_right _ (by have h := List.mem_of_getElem? h9; exact List.mem_append_right _ (List.mem_append_right _ (List.mem_append_left _ h)))) hg
theorem cx_t4 {w : Cond} (i : Nat) (h9 : tables_1_4[i]? = some w) (hg : goodWord w = true) : w ∈ cx_G := cx_inW (List.mem_append_right _ (by have h := List.mem_of_getElem? h9; exact List.mem_append_right _ (List.mem_append_right _ (List.mem_append_right _ (List.mem_append_left _ h))))) hg
theorem cx_t5 {w : Cond} (i : Nat) (h9 : tables_1_5[i]? = some w) (hg : goodWord w = true) : w ∈ cx_G := cx_inW (List.mem_append_right _ (by have h := List.mem_of_getElem? h9; exact List.mem_append_right _ (List.mem_append_right _ (List.mem_append_right _ (List.mem_append_right _ (List.mem_append_left _ h)))))) hg
theorem cx_t6 {w : Cond} (i : Nat) (h9 : tables_1_6[i]? = some w) (hg : goodWord w = true) : w ∈ cx_G := cx_inW (List.mem_append_right _ (by have h := List.mem_of_getElem? h9; exact List.mem_append_right _ (List.mem_append_right _ (List.mem_append_right _ (List.mem_append_right _ (List.mem_append_right _ (List.mem_append_left _ h))))))) hg
theorem cx_t7 {w : Cond} (i : Nat) (h9 : tables_1_7[i]? = some w) (hg : goodWord w = true) : w ∈ cx_G := cx_inW (List.mem_append_right _ (by have h := List.mem_of_getElem? h9; exact List.mem_append_right _ (List.mem_append_right _ (List.mem_append_right _ (List.mem_append_right _ (List.mem_append_right _ (List.mem_append_right _ (h)))))))) hg
theorem hs_0 : Cond.selects "NamelessBox" ⟨"NamelessBox", "told", "(I)I"⟩ ⟨"NamelessBox", "told", "(I)I"⟩ ∈ cx_G := cx_in 0 (by decide +kernel) rfl
theorem hs_1 : Cond.selects "NamelessBox" ⟨"NamelessBox", "refused", "(I)I"⟩ ⟨"NamelessBox", "refused", "(I)I"⟩ ∈ cx_G := cx_in 1 (by decide +kernel) rfl
theorem hs_2 : Cond.selects "NamelessBox$Box" ⟨"NamelessBox$Box", "mayBeParent", "(II)Z"⟩ ⟨"NamelessBox$Box", "mayBeParent", "(II)Z"⟩ ∈ cx_G := cx_in 2 (by decide +kernel) rfl
theorem hs_3 : Cond.selects "NamelessBox" ⟨"NamelessBox", "isWho", "(I)Z"⟩ ⟨"NamelessBox", "isWho", "(I)Z"⟩ ∈ cx_G := cx_in 3 (by decide +kernel) rfl
theorem hs_4 : Cond.selects "NamelessBox$Text" ⟨"NamelessBox$Text", "advance", "()I"⟩ ⟨"NamelessBox$Text", "advance", "()I"⟩ ∈ cx_G := cx_in 4 (by decide +kernel) rfl
theorem hs_5 : Cond.selects "NamelessBox$Text" ⟨"NamelessBox$Text", "takeItem", "(I)Z"⟩ ⟨"NamelessBox$Text", "takeItem", "(I)Z"⟩ ∈ cx_G := cx_in 5 (by decide +kernel) rfl
theorem hs_6 : Cond.selects "NamelessBox$Text" ⟨"NamelessBox$Text", "itemOf", "()I"⟩ ⟨"NamelessBox$Text", "itemOf", "()I"⟩ ∈ cx_G := cx_in 6 (by decide +kernel) rfl
theorem hs_7 : Cond.selects "NamelessBox$Text" ⟨"NamelessBox$Text", "isWord", "(Ljava/lang/String;)Z"⟩ ⟨"NamelessBox$Text", "isWord", "(Ljava/lang/String;)Z"⟩ ∈ cx_G := cx_in 7 (by decide +kernel) rfl
theorem hs_8 : Cond.selects "NamelessBox$Text" ⟨"NamelessBox$Text", "numberOf", "()I"⟩ ⟨"NamelessBox$Text", "numberOf", "()I"⟩ ∈ cx_G := cx_in 8 (by decide +kernel) rfl
theorem hs_9 : Cond.selects "NamelessBox$Text" ⟨"NamelessBox$Text", "tellItem", "(LNamelessBox$Box;)I"⟩ ⟨"NamelessBox$Text", "tellItem", "(LNamelessBox$Box;)I"⟩ ∈ cx_G := cx_in 9 (by decide +kernel) rfl
theorem hs_10 : Cond.selects "NamelessBox" ⟨"NamelessBox", "anyWay", "(I)Z"⟩ ⟨"NamelessBox", "anyWay", "(I)Z"⟩ ∈ cx_G := cx_in 10 (by decide +kernel) rfl
theorem hs_11 : Cond.selects "NamelessBox$Ways" ⟨"NamelessBox$Ways", "placeHeads", "()V"⟩ ⟨"NamelessBox$Ways", "placeHeads", "()V"⟩ ∈ cx_G := cx_in 11 (by decide +kernel) rfl
theorem hs_12 : Cond.selects "NamelessBox$Ways" ⟨"NamelessBox$Ways", "planLikes", "(II)V"⟩ ⟨"NamelessBox$Ways", "planLikes", "(II)V"⟩ ∈ cx_G := cx_in 12 (by decide +kernel) rfl
theorem hs_13 : Cond.selects "NamelessBox$Ways" ⟨"NamelessBox$Ways", "planNamings", "(II)V"⟩ ⟨"NamelessBox$Ways", "planNamings", "(II)V"⟩ ∈ cx_G := cx_in 13 (by decide +kernel) rfl
theorem hs_14 : Cond.selects "NamelessBox$Ways" ⟨"NamelessBox$Ways", "takeEmptyPictures", "()V"⟩ ⟨"NamelessBox$Ways", "takeEmptyPictures", "()V"⟩ ∈ cx_G := cx_in 14 (by decide +kernel) rfl
theorem hs_15 : Cond.selects "NamelessBox$Ways" ⟨"NamelessBox$Ways", "yearsInOrder", "()J"⟩ ⟨"NamelessBox$Ways", "yearsInOrder", "()J"⟩ ∈ cx_G := cx_in 15 (by decide +kernel) rfl
theorem hs_16 : Cond.selects "NamelessBox$Ways" ⟨"NamelessBox$Ways", "descend", "(II)V"⟩ ⟨"NamelessBox$Ways", "descend", "(II)V"⟩ ∈ cx_G := cx_in 16 (by decide +kernel) rfl
theorem hs_17 : Cond.selects "NamelessBox$Ways" ⟨"NamelessBox$Ways", "goesOn", "(II)Z"⟩ ⟨"NamelessBox$Ways", "goesOn", "(II)Z"⟩ ∈ cx_G := cx_in 17 (by decide +kernel) rfl
theorem hs_18 : Cond.selects "NamelessBox$Ways" ⟨"NamelessBox$Ways", "isThereAlready", "(II)Z"⟩ ⟨"NamelessBox$Ways", "isThereAlready", "(II)Z"⟩ ∈ cx_G := cx_in 18 (by decide +kernel) rfl
theorem hs_19 : Cond.selects "NamelessBox$Ways" ⟨"NamelessBox$Ways", "joinings", "(II)I"⟩ ⟨"NamelessBox$Ways", "joinings", "(II)I"⟩ ∈ cx_G := cx_in 19 (by decide +kernel) rfl
theorem hs_20 : Cond.selects "NamelessBox$Ways" ⟨"NamelessBox$Ways", "takings", "(II)J"⟩ ⟨"NamelessBox$Ways", "takings", "(II)J"⟩ ∈ cx_G := cx_in 20 (by decide +kernel) rfl
theorem hs_21 : Cond.selects "NamelessBox$Ways" ⟨"NamelessBox$Ways", "sumYears", "(II)J"⟩ ⟨"NamelessBox$Ways", "sumYears", "(II)J"⟩ ∈ cx_G := cx_in 21 (by decide +kernel) rfl
theorem hs_22 : Cond.selects "NamelessBox$Ways" ⟨"NamelessBox$Ways", "multiplyYears", "(II)Z"⟩ ⟨"NamelessBox$Ways", "multiplyYears", "(II)Z"⟩ ∈ cx_G := cx_in 22 (by decide +kernel) rfl
theorem hs_23 : Cond.selects "NamelessBox$Ways" ⟨"NamelessBox$Ways", "areBothTold", "(I)Z"⟩ ⟨"NamelessBox$Ways", "areBothTold", "(I)Z"⟩ ∈ cx_G := cx_in 23 (by decide +kernel) rfl
theorem hs_24 : Cond.selects "NamelessBox$Ways" ⟨"NamelessBox$Ways", "gather", "(II)V"⟩ ⟨"NamelessBox$Ways", "gather", "(II)V"⟩ ∈ cx_G := cx_in 24 (by decide +kernel) rfl
theorem hs_25 : Cond.selects "NamelessBox" ⟨"NamelessBox", "share", "([JI)I"⟩ ⟨"NamelessBox", "share", "([JI)I"⟩ ∈ cx_G := cx_in 25 (by decide +kernel) rfl
theorem hs_26 : Cond.selects "NamelessBox$Fraction" ⟨"NamelessBox$Fraction", "halveBoth", "()V"⟩ ⟨"NamelessBox$Fraction", "halveBoth", "()V"⟩ ∈ cx_G := cx_in 26 (by decide +kernel) rfl
theorem hs_27 : Cond.selects "NamelessBox$Fraction" ⟨"NamelessBox$Fraction", "findOddDivisor", "()V"⟩ ⟨"NamelessBox$Fraction", "findOddDivisor", "()V"⟩ ∈ cx_G := cx_in 27 (by decide +kernel) rfl
theorem hs_28 : Cond.selects "NamelessBox" ⟨"NamelessBox", "staysSure", "(II)Z"⟩ ⟨"NamelessBox", "staysSure", "(II)Z"⟩ ∈ cx_G := cx_in 28 (by decide +kernel) rfl
theorem hs_29 : Cond.selects "NamelessBox" ⟨"NamelessBox", "answerShare", "()I"⟩ ⟨"NamelessBox", "answerShare", "()I"⟩ ∈ cx_G := cx_in 29 (by decide +kernel) rfl
theorem hs_30 : Cond.selects "NamelessBox" ⟨"NamelessBox", "addStrangerBeside", "(II)V"⟩ ⟨"NamelessBox", "addStrangerBeside", "(II)V"⟩ ∈ cx_G := cx_in 30 (by decide +kernel) rfl
theorem hs_31 : Cond.selects "NamelessBox" ⟨"NamelessBox", "isYearOf", "(II)Z"⟩ ⟨"NamelessBox", "isYearOf", "(II)Z"⟩ ∈ cx_G := cx_in 31 (by decide +kernel) rfl
theorem hs_32 : Cond.selects "NamelessBox" ⟨"NamelessBox", "areTwoPeople", "(II)Z"⟩ ⟨"NamelessBox", "areTwoPeople", "(II)Z"⟩ ∈ cx_G := cx_in 32 (by decide +kernel) rfl
theorem hs_33 : Cond.selects "NamelessBox$Aunt" ⟨"NamelessBox$Aunt", "planWrongly", "(II)V"⟩ ⟨"NamelessBox$Aunt", "planWrongly", "(II)V"⟩ ∈ cx_G := cx_in 33 (by decide +kernel) rfl
theorem hs_34 : Cond.selects "NamelessBox$Aunt" ⟨"NamelessBox$Aunt", "addBehind", "(II)V"⟩ ⟨"NamelessBox$Aunt", "addBehind", "(II)V"⟩ ∈ cx_G := cx_in 34 (by decide +kernel) rfl
theorem hs_35 : Cond.selects "NamelessBox" ⟨"NamelessBox", "imageOf", "(I)LNamelessBox$Box;"⟩ ⟨"NamelessBox", "imageOf", "(I)LNamelessBox$Box;"⟩ ∈ cx_G := cx_in 35 (by decide +kernel) rfl
theorem hs_36 : Cond.selects "NamelessBox" ⟨"NamelessBox", "howMany", "(I)I"⟩ ⟨"NamelessBox", "howMany", "(I)I"⟩ ∈ cx_G := cx_in 36 (by decide +kernel) rfl
theorem hs_37 : Cond.selects "NamelessBoxModel" ⟨"NamelessBoxModel", "sets", "(IJ)V"⟩ ⟨"NamelessBoxModel", "sets", "(IJ)V"⟩ ∈ cx_G := cx_in 37 (by decide +kernel) rfl
theorem hs_38 : Cond.selects "NamelessBoxModel" ⟨"NamelessBoxModel", "trims", "(I)V"⟩ ⟨"NamelessBoxModel", "trims", "(I)V"⟩ ∈ cx_G := cx_in 38 (by decide +kernel) rfl
theorem hs_39 : Cond.selects "NamelessBoxModel" ⟨"NamelessBoxModel", "bad", "()I"⟩ ⟨"NamelessBoxModel", "bad", "()I"⟩ ∈ cx_G := cx_in 39 (by decide +kernel) rfl
theorem hs_40 : Cond.selects "NamelessBoxModel" ⟨"NamelessBoxModel", "refuses", "(II)I"⟩ ⟨"NamelessBoxModel", "refuses", "(II)I"⟩ ∈ cx_G := cx_in 40 (by decide +kernel) rfl
theorem hs_41 : Cond.selects "NamelessBoxModel" ⟨"NamelessBoxModel", "full", "()I"⟩ ⟨"NamelessBoxModel", "full", "()I"⟩ ∈ cx_G := cx_in 41 (by decide +kernel) rfl
theorem hs_42 : Cond.selects "NamelessBoxModel" ⟨"NamelessBoxModel", "isPerson", "(I)Z"⟩ ⟨"NamelessBoxModel", "isPerson", "(I)Z"⟩ ∈ cx_G := cx_in 42 (by decide +kernel) rfl
theorem hs_43 : Cond.selects "NamelessBoxModel" ⟨"NamelessBoxModel", "ofPerson", "(II)I"⟩ ⟨"NamelessBoxModel", "ofPerson", "(II)I"⟩ ∈ cx_G := cx_in 43 (by decide +kernel) rfl
theorem hs_44 : Cond.selects "NamelessBoxModel" ⟨"NamelessBoxModel", "isPicture", "(I)Z"⟩ ⟨"NamelessBoxModel", "isPicture", "(I)Z"⟩ ∈ cx_G := cx_in 44 (by decide +kernel) rfl
theorem hs_45 : Cond.selects "NamelessBoxModel" ⟨"NamelessBoxModel", "isHead", "(I)Z"⟩ ⟨"NamelessBoxModel", "isHead", "(I)Z"⟩ ∈ cx_G := cx_in 45 (by decide +kernel) rfl
theorem hs_46 : Cond.selects "NamelessBoxModel" ⟨"NamelessBoxModel", "ofHead", "(II)I"⟩ ⟨"NamelessBoxModel", "ofHead", "(II)I"⟩ ∈ cx_G := cx_in 46 (by decide +kernel) rfl
theorem hs_47 : Cond.selects "NamelessBoxModel" ⟨"NamelessBoxModel", "markOf", "(II)I"⟩ ⟨"NamelessBoxModel", "markOf", "(II)I"⟩ ∈ cx_G := cx_in 47 (by decide +kernel) rfl
theorem hs_48 : Cond.selects "NamelessBoxModel" ⟨"NamelessBoxModel", "likeOf", "(III)I"⟩ ⟨"NamelessBoxModel", "likeOf", "(III)I"⟩ ∈ cx_G := cx_in 48 (by decide +kernel) rfl
theorem hs_49 : Cond.selects "NamelessBoxModel" ⟨"NamelessBoxModel", "truthOf", "(I)I"⟩ ⟨"NamelessBoxModel", "truthOf", "(I)I"⟩ ∈ cx_G := cx_in 49 (by decide +kernel) rfl
theorem hs_50 : Cond.selects "NamelessBoxModel" ⟨"NamelessBoxModel", "reads", "()Z"⟩ ⟨"NamelessBoxModel", "reads", "()Z"⟩ ∈ cx_G := cx_in 50 (by decide +kernel) rfl
theorem hs_51 : Cond.selects "NamelessBoxModel" ⟨"NamelessBoxModel", "scans", "()V"⟩ ⟨"NamelessBoxModel", "scans", "()V"⟩ ∈ cx_G := cx_in 51 (by decide +kernel) rfl
theorem hs_52 : Cond.selects "NamelessBoxModel" ⟨"NamelessBoxModel", "isAt", "(II)Z"⟩ ⟨"NamelessBoxModel", "isAt", "(II)Z"⟩ ∈ cx_G := cx_in 52 (by decide +kernel) rfl
theorem hs_53 : Cond.selects "NamelessBoxModel" ⟨"NamelessBoxModel", "tellsItem", "(I)Z"⟩ ⟨"NamelessBoxModel", "tellsItem", "(I)Z"⟩ ∈ cx_G := cx_in 53 (by decide +kernel) rfl
theorem hs_54 : Cond.selects "NamelessBoxModel" ⟨"NamelessBoxModel", "begins", "()V"⟩ ⟨"NamelessBoxModel", "begins", "()V"⟩ ∈ cx_G := cx_in 54 (by decide +kernel) rfl
theorem hs_55 : Cond.selects "NamelessBoxModel" ⟨"NamelessBoxModel", "shares", "(I)V"⟩ ⟨"NamelessBoxModel", "shares", "(I)V"⟩ ∈ cx_G := cx_in 55 (by decide +kernel) rfl
theorem hs_56 : Cond.selects "NamelessBoxModel" ⟨"NamelessBoxModel", "ways", "()I"⟩ ⟨"NamelessBoxModel", "ways", "()I"⟩ ∈ cx_G := cx_in 56 (by decide +kernel) rfl
theorem hs_57 : Cond.selects "NamelessBoxModel" ⟨"NamelessBoxModel", "weighs", "(I)Z"⟩ ⟨"NamelessBoxModel", "weighs", "(I)Z"⟩ ∈ cx_G := cx_in 57 (by decide +kernel) rfl
theorem hs_58 : Cond.selects "NamelessBoxModel" ⟨"NamelessBoxModel", "picks", "(I)V"⟩ ⟨"NamelessBoxModel", "picks", "(I)V"⟩ ∈ cx_G := cx_in 58 (by decide +kernel) rfl
theorem hs_59 : Cond.selects "NamelessBoxModel" ⟨"NamelessBoxModel", "isTwice", "()Z"⟩ ⟨"NamelessBoxModel", "isTwice", "()Z"⟩ ∈ cx_G := cx_in 59 (by decide +kernel) rfl
theorem hs_60 : Cond.selects "NamelessBoxModel" ⟨"NamelessBoxModel", "years", "(I)I"⟩ ⟨"NamelessBoxModel", "years", "(I)I"⟩ ∈ cx_G := cx_in 60 (by decide +kernel) rfl
theorem hs_61 : Cond.selects "NamelessBoxModel" ⟨"NamelessBoxModel", "termOf", "(II)J"⟩ ⟨"NamelessBoxModel", "termOf", "(II)J"⟩ ∈ cx_G := cx_in 61 (by decide +kernel) rfl
theorem hs_62 : Cond.selects "NamelessBoxModel" ⟨"NamelessBoxModel", "timesLong", "(IJ)V"⟩ ⟨"NamelessBoxModel", "timesLong", "(IJ)V"⟩ ∈ cx_G := cx_in 62 (by decide +kernel) rfl
theorem hs_63 : Cond.selects "NamelessBoxModel" ⟨"NamelessBoxModel", "multiplies", "(II)V"⟩ ⟨"NamelessBoxModel", "multiplies", "(II)V"⟩ ∈ cx_G := cx_in 63 (by decide +kernel) rfl
theorem hs_64 : Cond.selects "NamelessBoxModel" ⟨"NamelessBoxModel", "takes", "(II)V"⟩ ⟨"NamelessBoxModel", "takes", "(II)V"⟩ ∈ cx_G := cx_in 64 (by decide +kernel) rfl
theorem hs_65 : Cond.selects "NamelessBoxModel" ⟨"NamelessBoxModel", "times", "(II)V"⟩ ⟨"NamelessBoxModel", "times", "(II)V"⟩ ∈ cx_G := cx_in 65 (by decide +kernel) rfl
theorem hs_66 : Cond.selects "NamelessBoxModel" ⟨"NamelessBoxModel", "adds", "(II)V"⟩ ⟨"NamelessBoxModel", "adds", "(II)V"⟩ ∈ cx_G := cx_in 66 (by decide +kernel) rfl
theorem hs_67 : Cond.selects "NamelessBoxModel" ⟨"NamelessBoxModel", "no", "()I"⟩ ⟨"NamelessBoxModel", "no", "()I"⟩ ∈ cx_G := cx_in 67 (by decide +kernel) rfl
theorem hs_68 : Cond.selects "NamelessBoxModel" ⟨"NamelessBoxModel", "tellsHit", "()I"⟩ ⟨"NamelessBoxModel", "tellsHit", "()I"⟩ ∈ cx_G := cx_in 68 (by decide +kernel) rfl
theorem hs_69 : Cond.selects "NamelessBoxModel" ⟨"NamelessBoxModel", "lowers", "()V"⟩ ⟨"NamelessBoxModel", "lowers", "()V"⟩ ∈ cx_G := cx_in 69 (by decide +kernel) rfl
theorem hs_70 : Cond.selects "NamelessBoxModel" ⟨"NamelessBoxModel", "isEven", "(I)Z"⟩ ⟨"NamelessBoxModel", "isEven", "(I)Z"⟩ ∈ cx_G := cx_in 70 (by decide +kernel) rfl
theorem hs_71 : Cond.selects "NamelessBoxModel" ⟨"NamelessBoxModel", "halves", "(I)V"⟩ ⟨"NamelessBoxModel", "halves", "(I)V"⟩ ∈ cx_G := cx_in 71 (by decide +kernel) rfl
theorem hs_72 : Cond.selects "NamelessBoxModel" ⟨"NamelessBoxModel", "against", "(II)I"⟩ ⟨"NamelessBoxModel", "against", "(II)I"⟩ ∈ cx_G := cx_in 72 (by decide +kernel) rfl
theorem hs_73 : Cond.selects "NamelessBoxModel" ⟨"NamelessBoxModel", "lessens", "(II)V"⟩ ⟨"NamelessBoxModel", "lessens", "(II)V"⟩ ∈ cx_G := cx_in 73 (by decide +kernel) rfl
theorem hs_74 : Cond.selects "NamelessBoxModel" ⟨"NamelessBoxModel", "dividesOdd", "(I)V"⟩ ⟨"NamelessBoxModel", "dividesOdd", "(I)V"⟩ ∈ cx_G := cx_in 74 (by decide +kernel) rfl
theorem hs_75 : Cond.selects "NamelessBoxModel" ⟨"NamelessBoxModel", "namedNow", "(I)I"⟩ ⟨"NamelessBoxModel", "namedNow", "(I)I"⟩ ∈ cx_G := cx_in 75 (by decide +kernel) rfl
theorem hs_76 : Cond.selects "NamelessBoxModel" ⟨"NamelessBoxModel", "sums", "(III)V"⟩ ⟨"NamelessBoxModel", "sums", "(III)V"⟩ ∈ cx_G := cx_in 76 (by decide +kernel) rfl
theorem hs_77 : Cond.selects "NamelessBoxModel" ⟨"NamelessBoxModel", "counts", "(III)I"⟩ ⟨"NamelessBoxModel", "counts", "(III)I"⟩ ∈ cx_G := cx_in 77 (by decide +kernel) rfl
theorem hs_78 : Cond.selects "NamelessBoxModel" ⟨"NamelessBoxModel", "isOn", "(II)Z"⟩ ⟨"NamelessBoxModel", "isOn", "(II)Z"⟩ ∈ cx_G := cx_in 78 (by decide +kernel) rfl
theorem hs_79 : Cond.selects "NamelessBoxModel" ⟨"NamelessBoxModel", "isSure", "(II)Z"⟩ ⟨"NamelessBoxModel", "isSure", "(II)Z"⟩ ∈ cx_G := cx_in 79 (by decide +kernel) rfl
theorem hs_80 : Cond.selects "NamelessBoxModel" ⟨"NamelessBoxModel", "asks", "(III)I"⟩ ⟨"NamelessBoxModel", "asks", "(III)I"⟩ ∈ cx_G := cx_in 80 (by decide +kernel) rfl
theorem hs_81 : Cond.selects "NamelessBoxModel" ⟨"NamelessBoxModel", "years2", "(IIII)Z"⟩ ⟨"NamelessBoxModel", "years2", "(IIII)Z"⟩ ∈ cx_G := cx_in 81 (by decide +kernel) rfl
theorem hs_82 : Cond.selects "NamelessBoxModel" ⟨"NamelessBoxModel", "rights", "(I)V"⟩ ⟨"NamelessBoxModel", "rights", "(I)V"⟩ ∈ cx_G := cx_in 82 (by decide +kernel) rfl
theorem hs_83 : Cond.selects "NamelessBoxModel" ⟨"NamelessBoxModel", "worths", "(I)Z"⟩ ⟨"NamelessBoxModel", "worths", "(I)Z"⟩ ∈ cx_G := cx_in 83 (by decide +kernel) rfl
theorem hs_84 : Cond.selects "NamelessBoxModel" ⟨"NamelessBoxModel", "addsGreatest", "(II)V"⟩ ⟨"NamelessBoxModel", "addsGreatest", "(II)V"⟩ ∈ cx_G := cx_in 84 (by decide +kernel) rfl
theorem hs_85 : Cond.selects "NamelessBoxModel" ⟨"NamelessBoxModel", "truthAbout", "(I)I"⟩ ⟨"NamelessBoxModel", "truthAbout", "(I)I"⟩ ∈ cx_G := cx_in 85 (by decide +kernel) rfl
theorem hs_86 : Cond.selects "NamelessBoxModel" ⟨"NamelessBoxModel", "tellsWorth", "(I)I"⟩ ⟨"NamelessBoxModel", "tellsWorth", "(I)I"⟩ ∈ cx_G := cx_in 86 (by decide +kernel) rfl
theorem hs_87 : Cond.selects "NamelessBoxModel" ⟨"NamelessBoxModel", "signNow", "()I"⟩ ⟨"NamelessBoxModel", "signNow", "()I"⟩ ∈ cx_G := cx_in 87 (by decide +kernel) rfl
theorem hs_88 : Cond.selects "NamelessBoxModel" ⟨"NamelessBoxModel", "countOf", "(I)I"⟩ ⟨"NamelessBoxModel", "countOf", "(I)I"⟩ ∈ cx_G := cx_in 88 (by decide +kernel) rfl
theorem hs_89 : Cond.selects "NamelessBoxModel" ⟨"NamelessBoxModel", "mixed", "(JII)J"⟩ ⟨"NamelessBoxModel", "mixed", "(JII)J"⟩ ∈ cx_G := cx_in 89 (by decide +kernel) rfl
theorem hw_0 : (Jvm.Cond.initialized "NamelessBoxLaw") ∈ cx_G := cx_t1 0 (by decide +kernel) rfl
theorem hw_1 : (Jvm.Cond.initialized "NamelessBox") ∈ cx_G := cx_t1 1 (by decide +kernel) rfl
theorem hw_2 : (Jvm.Cond.initialized "NamelessBox$Box") ∈ cx_G := cx_t1 2 (by decide +kernel) rfl
theorem hw_3 : (Jvm.Cond.initialized "NamelessBox$Rows") ∈ cx_G := cx_t1 3 (by decide +kernel) rfl
theorem hw_4 : (Jvm.Cond.initialized "java/lang/Math") ∈ cx_G := cx_t1 4 (by decide +kernel) rfl
theorem hw_5 : (Jvm.Cond.initialized "NamelessBox$Text") ∈ cx_G := cx_t1 5 (by decide +kernel) rfl
theorem hw_6 : (Jvm.Cond.initialized "NamelessBox$Fraction") ∈ cx_G := cx_t1 6 (by decide +kernel) rfl
theorem hw_7 : (Jvm.Cond.initialized "NamelessBox$Ways") ∈ cx_G := cx_t1 7 (by decide +kernel) rfl
theorem hw_8 : (Jvm.Cond.initialized "NamelessBox$Sums") ∈ cx_G := cx_t1 8 (by decide +kernel) rfl
theorem hw_9 : (Jvm.Cond.initialized "java/util/Arrays") ∈ cx_G := cx_t1 9 (by decide +kernel) rfl
theorem hw_10 : (Jvm.Cond.initialized "NamelessBox$Aunt") ∈ cx_G := cx_t1 10 (by decide +kernel) rfl
theorem hw_11 : (Jvm.Cond.initialized "NamelessBoxModel") ∈ cx_G := cx_t1 11 (by decide +kernel) rfl
theorem hw_12 : (Jvm.Cond.initialized "java/lang/String") ∈ cx_G := cx_t1 12 (by decide +kernel) rfl
theorem hw_13 : (Jvm.Cond.initialized "java/lang/StringLatin1") ∈ cx_G := cx_t1 13 (by decide +kernel) rfl
theorem hw_14 : (Jvm.Cond.initialized "jdk/internal/util/Preconditions") ∈ cx_G := cx_t1 14 (by decide +kernel) rfl
theorem hw_15 : (Jvm.Cond.initialized "java/lang/StringUTF16") ∈ cx_G := cx_t1 15 (by decide +kernel) rfl
theorem hw_16 : (Jvm.Cond.initialized "java/lang/System") ∈ cx_G := cx_t1 16 (by decide +kernel) rfl
theorem hw_17 : (Jvm.Cond.initialized "NamelessBox$Limbs") ∈ cx_G := cx_t1 17 (by decide +kernel) rfl
theorem hw_18 : (Jvm.Cond.initialized "java/lang/Long") ∈ cx_G := cx_t1 18 (by decide +kernel) rfl
theorem hw_19 : (Jvm.Cond.classLink "NamelessBoxLaw" (7 : Nat) "NamelessBox") ∈ cx_G := cx_t1 19 (by decide +kernel) rfl
theorem hw_20 : (Jvm.Cond.instantiable "NamelessBox" (12 : Nat)) ∈ cx_G := cx_t1 20 (by decide +kernel) rfl
theorem hw_21 : (Jvm.Cond.methodLink "NamelessBoxLaw" (9 : Nat) ({ cls := "NamelessBox", name := "<init>", desc := "()V" } : Jvm.MethodName)) ∈ cx_G := cx_t1 21 (by decide +kernel) rfl
theorem hw_22 : (Jvm.Cond.instanceMethod ({ cls := "NamelessBox", name := "<init>", desc := "()V" } : Jvm.MethodName)) ∈ cx_G := cx_t1 22 (by decide +kernel) rfl
theorem hw_23 : (Jvm.Cond.code ({ cls := "NamelessBox", name := "<init>", desc := "()V" } : Jvm.MethodName) prog_1_method_1_code (1 : Nat) (Option.none : Option Jvm.ClassFile.FieldType)) ∈ cx_G := cx_t1 23 (by decide +kernel) rfl
theorem hw_24 : (Jvm.Cond.methodLink "NamelessBox" (1 : Nat) ({ cls := "java/lang/Object", name := "<init>", desc := "()V" } : Jvm.MethodName)) ∈ cx_G := cx_t1 24 (by decide +kernel) rfl
theorem hw_25 : (Jvm.Cond.instanceMethod ({ cls := "java/lang/Object", name := "<init>", desc := "()V" } : Jvm.MethodName)) ∈ cx_G := cx_t1 25 (by decide +kernel) rfl
theorem hw_26 : (Jvm.Cond.code ({ cls := "java/lang/Object", name := "<init>", desc := "()V" } : Jvm.MethodName) object_method_1_code (1 : Nat) (Option.none : Option Jvm.ClassFile.FieldType)) ∈ cx_G := cx_t1 26 (by decide +kernel) rfl
theorem hw_27 : (Jvm.Cond.classLink "NamelessBox" (7 : Nat) "NamelessBox$Box") ∈ cx_G := cx_t1 27 (by decide +kernel) rfl
theorem hw_28 : (Jvm.Cond.instantiable "NamelessBox$Box" (6 : Nat)) ∈ cx_G := cx_t1 28 (by decide +kernel) rfl
theorem hw_30 : (Jvm.Cond.instanceMethod ({ cls := "NamelessBox$Box", name := "<init>", desc := "()V" } : Jvm.MethodName)) ∈ cx_G := cx_t1 30 (by decide +kernel) rfl
theorem hw_31 : (Jvm.Cond.code ({ cls := "NamelessBox$Box", name := "<init>", desc := "()V" } : Jvm.MethodName) prog_3_method_1_code (1 : Nat) (Option.none : Option Jvm.ClassFile.FieldType)) ∈ cx_G := cx_t1 31 (by decide +kernel) rfl
theorem hw_32 : (Jvm.Cond.methodLink "NamelessBox$Box" (3 : Nat) ({ cls := "java/lang/Object", name := "<init>", desc := "()V" } : Jvm.MethodName)) ∈ cx_G := cx_t1 32 (by decide +kernel) rfl
theorem hw_33 : (Jvm.Cond.classLink "NamelessBox$Box" (9 : Nat) "NamelessBox$Rows") ∈ cx_G := cx_t1 33 (by decide +kernel) rfl
theorem hw_34 : (Jvm.Cond.instantiable "NamelessBox$Rows" (4 : Nat)) ∈ cx_G := cx_t1 34 (by decide +kernel) rfl
theorem hw_35 : (Jvm.Cond.methodLink "NamelessBox$Box" (11 : Nat) ({ cls := "NamelessBox$Rows", name := "<init>", desc := "(II)V" } : Jvm.MethodName)) ∈ cx_G := cx_t1 35 (by decide +kernel) rfl
theorem hw_36 : (Jvm.Cond.instanceMethod ({ cls := "NamelessBox$Rows", name := "<init>", desc := "(II)V" } : Jvm.MethodName)) ∈ cx_G := cx_t1 36 (by decide +kernel) rfl
theorem hw_37 : (Jvm.Cond.code ({ cls := "NamelessBox$Rows", name := "<init>", desc := "(II)V" } : Jvm.MethodName) prog_6_method_1_code (3 : Nat) (Option.none : Option Jvm.ClassFile.FieldType)) ∈ cx_G := cx_t1 37 (by decide +kernel) rfl
theorem hw_38 : (Jvm.Cond.methodLink "NamelessBox$Rows" (3 : Nat) ({ cls := "java/lang/Object", name := "<init>", desc := "()V" } : Jvm.MethodName)) ∈ cx_G := cx_t1 38 (by decide +kernel) rfl
theorem hw_39 : (Jvm.Cond.methodLink "NamelessBox$Rows" (21 : Nat) ({ cls := "java/lang/Math", name := "max", desc := "(II)I" } : Jvm.MethodName)) ∈ cx_G := cx_t1 39 (by decide +kernel) rfl
theorem hw_40 : (Jvm.Cond.static ({ cls := "java/lang/Math", name := "max", desc := "(II)I" } : Jvm.MethodName)) ∈ cx_G := cx_t1 40 (by decide +kernel) rfl
theorem hw_41 : (Jvm.Cond.code ({ cls := "java/lang/Math", name := "max", desc := "(II)I" } : Jvm.MethodName) prog_13_method_65_code (2 : Nat) (Option.some Jvm.ClassFile.FieldType.int)) ∈ cx_G := cx_t1 41 (by decide +kernel) rfl
theorem hw_42 : (Jvm.Cond.fieldLink "NamelessBox$Rows" (15 : Nat) "NamelessBox$Rows" "width" "I") ∈ cx_G := cx_t1 42 (by decide +kernel) rfl
theorem hw_43 : (Jvm.Cond.fieldLink "NamelessBox$Rows" (18 : Nat) "NamelessBox$Rows" "limit" "I") ∈ cx_G := cx_t1 43 (by decide +kernel) rfl
theorem hw_44 : (Jvm.Cond.fieldLink "NamelessBox$Rows" (27 : Nat) "NamelessBox$Rows" "cells" "[I") ∈ cx_G := cx_t1 44 (by decide +kernel) rfl
theorem hw_45 : (Jvm.Cond.fieldLink "NamelessBox$Rows" (9 : Nat) "NamelessBox$Rows" "size" "I") ∈ cx_G := cx_t1 45 (by decide +kernel) rfl
theorem hw_46 : (Jvm.Cond.fieldLink "NamelessBox$Box" (36 : Nat) "NamelessBox$Rows" "size" "I") ∈ cx_G := cx_t1 46 (by decide +kernel) rfl
theorem hw_47 : (Jvm.Cond.fieldLink "NamelessBox$Aunt" (46 : Nat) "NamelessBox$Rows" "size" "I") ∈ cx_G := cx_t1 47 (by decide +kernel) rfl
theorem hw_48 : (Jvm.Cond.fieldLink "NamelessBox$Ways" (88 : Nat) "NamelessBox$Rows" "size" "I") ∈ cx_G := cx_t1 48 (by decide +kernel) rfl
theorem hw_49 : (Jvm.Cond.fieldLink "NamelessBox" (198 : Nat) "NamelessBox$Rows" "size" "I") ∈ cx_G := cx_t1 49 (by decide +kernel) rfl
theorem hw_59 : (Jvm.Cond.arrayClass Jvm.ClassFile.FieldType.int) ∈ cx_G := cx_t1 59 (by decide +kernel) rfl
theorem hw_60 : (Jvm.Cond.fieldLink "NamelessBox$Box" (14 : Nat) "NamelessBox$Box" "people" "LNamelessBox$Rows;") ∈ cx_G := cx_t1 60 (by decide +kernel) rfl
theorem hw_61 : (Jvm.Cond.fieldLink "NamelessBox$Aunt" (64 : Nat) "NamelessBox$Box" "people" "LNamelessBox$Rows;") ∈ cx_G := cx_t1 61 (by decide +kernel) rfl
theorem hw_62 : (Jvm.Cond.fieldLink "NamelessBox$Ways" (106 : Nat) "NamelessBox$Box" "people" "LNamelessBox$Rows;") ∈ cx_G := cx_t1 62 (by decide +kernel) rfl
theorem hw_63 : (Jvm.Cond.fieldLink "NamelessBox" (111 : Nat) "NamelessBox$Box" "people" "LNamelessBox$Rows;") ∈ cx_G := cx_t1 63 (by decide +kernel) rfl
theorem hw_64 : (Jvm.Cond.fieldLink "NamelessBox$Box" (20 : Nat) "NamelessBox$Box" "pictures" "LNamelessBox$Rows;") ∈ cx_G := cx_t1 64 (by decide +kernel) rfl
theorem hw_65 : (Jvm.Cond.fieldLink "NamelessBox$Ways" (82 : Nat) "NamelessBox$Box" "pictures" "LNamelessBox$Rows;") ∈ cx_G := cx_t1 65 (by decide +kernel) rfl
theorem hw_66 : (Jvm.Cond.fieldLink "NamelessBox" (239 : Nat) "NamelessBox$Box" "pictures" "LNamelessBox$Rows;") ∈ cx_G := cx_t1 66 (by decide +kernel) rfl
theorem hw_67 : (Jvm.Cond.fieldLink "NamelessBox$Box" (23 : Nat) "NamelessBox$Box" "heads" "LNamelessBox$Rows;") ∈ cx_G := cx_t1 67 (by decide +kernel) rfl
theorem hw_68 : (Jvm.Cond.fieldLink "NamelessBox$Aunt" (40 : Nat) "NamelessBox$Box" "heads" "LNamelessBox$Rows;") ∈ cx_G := cx_t1 68 (by decide +kernel) rfl
theorem hw_69 : (Jvm.Cond.fieldLink "NamelessBox$Ways" (109 : Nat) "NamelessBox$Box" "heads" "LNamelessBox$Rows;") ∈ cx_G := cx_t1 69 (by decide +kernel) rfl
theorem hw_70 : (Jvm.Cond.fieldLink "NamelessBox" (131 : Nat) "NamelessBox$Box" "heads" "LNamelessBox$Rows;") ∈ cx_G := cx_t1 70 (by decide +kernel) rfl
theorem hw_71 : (Jvm.Cond.fieldLink "NamelessBox$Box" (26 : Nat) "NamelessBox$Box" "names" "LNamelessBox$Rows;") ∈ cx_G := cx_t1 71 (by decide +kernel) rfl
theorem hw_72 : (Jvm.Cond.fieldLink "NamelessBox$Ways" (155 : Nat) "NamelessBox$Box" "names" "LNamelessBox$Rows;") ∈ cx_G := cx_t1 72 (by decide +kernel) rfl
theorem hw_73 : (Jvm.Cond.fieldLink "NamelessBox" (146 : Nat) "NamelessBox$Box" "names" "LNamelessBox$Rows;") ∈ cx_G := cx_t1 73 (by decide +kernel) rfl
theorem hw_74 : (Jvm.Cond.fieldLink "NamelessBox$Box" (29 : Nat) "NamelessBox$Box" "joins" "LNamelessBox$Rows;") ∈ cx_G := cx_t1 74 (by decide +kernel) rfl
theorem hw_75 : (Jvm.Cond.fieldLink "NamelessBox$Ways" (217 : Nat) "NamelessBox$Box" "joins" "LNamelessBox$Rows;") ∈ cx_G := cx_t1 75 (by decide +kernel) rfl
theorem hw_76 : (Jvm.Cond.fieldLink "NamelessBox" (321 : Nat) "NamelessBox$Box" "joins" "LNamelessBox$Rows;") ∈ cx_G := cx_t1 76 (by decide +kernel) rfl
theorem hw_77 : (Jvm.Cond.fieldLink "NamelessBox$Box" (32 : Nat) "NamelessBox$Box" "strangeness" "I") ∈ cx_G := cx_t1 77 (by decide +kernel) rfl
theorem hw_91 : (Jvm.Cond.classLink "NamelessBox" (29 : Nat) "NamelessBox$Text") ∈ cx_G := cx_t1 91 (by decide +kernel) rfl
theorem hw_92 : (Jvm.Cond.instantiable "NamelessBox$Text" (6 : Nat)) ∈ cx_G := cx_t1 92 (by decide +kernel) rfl
theorem hw_94 : (Jvm.Cond.instanceMethod ({ cls := "NamelessBox$Text", name := "<init>", desc := "()V" } : Jvm.MethodName)) ∈ cx_G := cx_t1 94 (by decide +kernel) rfl
theorem hw_95 : (Jvm.Cond.code ({ cls := "NamelessBox$Text", name := "<init>", desc := "()V" } : Jvm.MethodName) prog_8_method_1_code (1 : Nat) (Option.none : Option Jvm.ClassFile.FieldType)) ∈ cx_G := cx_t1 95 (by decide +kernel) rfl
theorem hw_96 : (Jvm.Cond.methodLink "NamelessBox$Text" (3 : Nat) ({ cls := "java/lang/Object", name := "<init>", desc := "()V" } : Jvm.MethodName)) ∈ cx_G := cx_t1 96 (by decide +kernel) rfl
theorem hw_97 : (Jvm.Cond.fieldLink "NamelessBox$Text" (11 : Nat) "NamelessBox$Text" "bytes" "[C") ∈ cx_G := cx_t1 97 (by decide +kernel) rfl
theorem hw_98 : (Jvm.Cond.fieldLink "NamelessBox$Text" (15 : Nat) "NamelessBox$Text" "length" "I") ∈ cx_G := cx_t1 98 (by decide +kernel) rfl
theorem hw_99 : (Jvm.Cond.fieldLink "NamelessBox" (324 : Nat) "NamelessBox$Text" "length" "I") ∈ cx_G := cx_t1 99 (by decide +kernel) rfl
theorem hw_100 : (Jvm.Cond.fieldLink "NamelessBox$Text" (19 : Nat) "NamelessBox$Text" "start" "I") ∈ cx_G := cx_t1 100 (by decide +kernel) rfl
theorem hw_101 : (Jvm.Cond.fieldLink "NamelessBox$Text" (22 : Nat) "NamelessBox$Text" "end" "I") ∈ cx_G := cx_t1 101 (by decide +kernel) rfl
theorem hw_102 : (Jvm.Cond.fieldLink "NamelessBox$Text" (25 : Nat) "NamelessBox$Text" "item" "I") ∈ cx_G := cx_t1 102 (by decide +kernel) rfl
theorem hw_103 : (Jvm.Cond.fieldLink "NamelessBox$Text" (28 : Nat) "NamelessBox$Text" "numbers" "[I") ∈ cx_G := cx_t1 103 (by decide +kernel) rfl
theorem hw_117 : (Jvm.Cond.arrayClass Jvm.ClassFile.FieldType.boolean) ∈ cx_G := cx_t1 117 (by decide +kernel) rfl
theorem hw_118 : (Jvm.Cond.arrayClass Jvm.ClassFile.FieldType.char) ∈ cx_G := cx_t1 118 (by decide +kernel) rfl
theorem hw_119 : (Jvm.Cond.classLink "NamelessBox" (36 : Nat) "NamelessBox$Fraction") ∈ cx_G := cx_t1 119 (by decide +kernel) rfl
theorem hw_120 : (Jvm.Cond.instantiable "NamelessBox$Fraction" (4 : Nat)) ∈ cx_G := cx_t1 120 (by decide +kernel) rfl
theorem hw_121 : (Jvm.Cond.methodLink "NamelessBox" (38 : Nat) ({ cls := "NamelessBox$Fraction", name := "<init>", desc := "()V" } : Jvm.MethodName)) ∈ cx_G := cx_t1 121 (by decide +kernel) rfl
theorem hw_122 : (Jvm.Cond.instanceMethod ({ cls := "NamelessBox$Fraction", name := "<init>", desc := "()V" } : Jvm.MethodName)) ∈ cx_G := cx_t1 122 (by decide +kernel) rfl
theorem hw_123 : (Jvm.Cond.code ({ cls := "NamelessBox$Fraction", name := "<init>", desc := "()V" } : Jvm.MethodName) prog_4_method_1_code (1 : Nat) (Option.none : Option Jvm.ClassFile.FieldType)) ∈ cx_G := cx_t1 123 (by decide +kernel) rfl
theorem hw_124 : (Jvm.Cond.methodLink "NamelessBox$Fraction" (1 : Nat) ({ cls := "java/lang/Object", name := "<init>", desc := "()V" } : Jvm.MethodName)) ∈ cx_G := cx_t1 124 (by decide +kernel) rfl
theorem hw_125 : (Jvm.Cond.fieldLink "NamelessBox$Fraction" (9 : Nat) "NamelessBox$Fraction" "above" "[J") ∈ cx_G := cx_t1 125 (by decide +kernel) rfl
theorem hw_126 : (Jvm.Cond.fieldLink "NamelessBox" (286 : Nat) "NamelessBox$Fraction" "above" "[J") ∈ cx_G := cx_t1 126 (by decide +kernel) rfl
theorem hw_127 : (Jvm.Cond.fieldLink "NamelessBox$Fraction" (15 : Nat) "NamelessBox$Fraction" "below" "[J") ∈ cx_G := cx_t1 127 (by decide +kernel) rfl
theorem hw_128 : (Jvm.Cond.fieldLink "NamelessBox" (294 : Nat) "NamelessBox$Fraction" "below" "[J") ∈ cx_G := cx_t1 128 (by decide +kernel) rfl
theorem hw_129 : (Jvm.Cond.fieldLink "NamelessBox$Fraction" (18 : Nat) "NamelessBox$Fraction" "one" "[J") ∈ cx_G := cx_t1 129 (by decide +kernel) rfl
theorem hw_130 : (Jvm.Cond.fieldLink "NamelessBox$Fraction" (21 : Nat) "NamelessBox$Fraction" "other" "[J") ∈ cx_G := cx_t1 130 (by decide +kernel) rfl
theorem hw_140 : (Jvm.Cond.arrayClass Jvm.ClassFile.FieldType.long) ∈ cx_G := cx_t1 140 (by decide +kernel) rfl
theorem hw_141 : (Jvm.Cond.classLink "NamelessBox" (47 : Nat) "NamelessBox$Ways") ∈ cx_G := cx_t1 141 (by decide +kernel) rfl
theorem hw_142 : (Jvm.Cond.instantiable "NamelessBox$Ways" (19 : Nat)) ∈ cx_G := cx_t1 142 (by decide +kernel) rfl
theorem hw_143 : (Jvm.Cond.classLink "NamelessBox" (49 : Nat) "NamelessBox$Sums") ∈ cx_G := cx_t1 143 (by decide +kernel) rfl
theorem hw_144 : (Jvm.Cond.instantiable "NamelessBox$Sums" (11 : Nat)) ∈ cx_G := cx_t1 144 (by decide +kernel) rfl
theorem hw_145 : (Jvm.Cond.methodLink "NamelessBox" (51 : Nat) ({ cls := "NamelessBox$Sums", name := "<init>", desc := "(Z)V" } : Jvm.MethodName)) ∈ cx_G := cx_t1 145 (by decide +kernel) rfl
theorem hw_146 : (Jvm.Cond.instanceMethod ({ cls := "NamelessBox$Sums", name := "<init>", desc := "(Z)V" } : Jvm.MethodName)) ∈ cx_G := cx_t1 146 (by decide +kernel) rfl
theorem hw_147 : (Jvm.Cond.code ({ cls := "NamelessBox$Sums", name := "<init>", desc := "(Z)V" } : Jvm.MethodName) prog_7_method_1_code (2 : Nat) (Option.none : Option Jvm.ClassFile.FieldType)) ∈ cx_G := cx_t1 147 (by decide +kernel) rfl
theorem hw_148 : (Jvm.Cond.methodLink "NamelessBox$Sums" (3 : Nat) ({ cls := "java/lang/Object", name := "<init>", desc := "()V" } : Jvm.MethodName)) ∈ cx_G := cx_t1 148 (by decide +kernel) rfl
theorem hw_149 : (Jvm.Cond.fieldLink "NamelessBox$Sums" (11 : Nat) "NamelessBox$Sums" "total" "[J") ∈ cx_G := cx_t1 149 (by decide +kernel) rfl
theorem hw_150 : (Jvm.Cond.fieldLink "NamelessBox$Aunt" (71 : Nat) "NamelessBox$Sums" "total" "[J") ∈ cx_G := cx_t1 150 (by decide +kernel) rfl
theorem hw_151 : (Jvm.Cond.fieldLink "NamelessBox" (191 : Nat) "NamelessBox$Sums" "total" "[J") ∈ cx_G := cx_t1 151 (by decide +kernel) rfl
theorem hw_152 : (Jvm.Cond.fieldLink "NamelessBox$Sums" (17 : Nat) "NamelessBox$Sums" "shares" "[J") ∈ cx_G := cx_t1 152 (by decide +kernel) rfl
theorem hw_153 : (Jvm.Cond.fieldLink "NamelessBox$Ways" (198 : Nat) "NamelessBox$Sums" "shares" "[J") ∈ cx_G := cx_t1 153 (by decide +kernel) rfl
theorem hw_154 : (Jvm.Cond.fieldLink "NamelessBox" (177 : Nat) "NamelessBox$Sums" "shares" "[J") ∈ cx_G := cx_t1 154 (by decide +kernel) rfl
theorem hw_155 : (Jvm.Cond.fieldLink "NamelessBox$Sums" (46 : Nat) "NamelessBox$Sums" "pairs" "[J") ∈ cx_G := cx_t1 155 (by decide +kernel) rfl
theorem hw_156 : (Jvm.Cond.fieldLink "NamelessBox$Sums" (20 : Nat) "NamelessBox$Sums" "crowds" "[J") ∈ cx_G := cx_t1 156 (by decide +kernel) rfl
theorem hw_157 : (Jvm.Cond.fieldLink "NamelessBox$Sums" (23 : Nat) "NamelessBox$Sums" "bestWay" "[I") ∈ cx_G := cx_t1 157 (by decide +kernel) rfl
theorem hw_158 : (Jvm.Cond.fieldLink "NamelessBox" (188 : Nat) "NamelessBox$Sums" "bestWay" "[I") ∈ cx_G := cx_t1 158 (by decide +kernel) rfl
theorem hw_159 : (Jvm.Cond.fieldLink "NamelessBox$Sums" (27 : Nat) "NamelessBox$Sums" "bestWeight" "[J") ∈ cx_G := cx_t1 159 (by decide +kernel) rfl
theorem hw_160 : (Jvm.Cond.fieldLink "NamelessBox$Sums" (30 : Nat) "NamelessBox$Sums" "answer" "[J") ∈ cx_G := cx_t1 160 (by decide +kernel) rfl
theorem hw_161 : (Jvm.Cond.fieldLink "NamelessBox$Aunt" (96 : Nat) "NamelessBox$Sums" "answer" "[J") ∈ cx_G := cx_t1 161 (by decide +kernel) rfl
theorem hw_162 : (Jvm.Cond.fieldLink "NamelessBox" (315 : Nat) "NamelessBox$Sums" "answer" "[J") ∈ cx_G := cx_t1 162 (by decide +kernel) rfl
theorem hw_163 : (Jvm.Cond.fieldLink "NamelessBox$Sums" (33 : Nat) "NamelessBox$Sums" "mine" "[J") ∈ cx_G := cx_t1 163 (by decide +kernel) rfl
theorem hw_164 : (Jvm.Cond.fieldLink "NamelessBox$Sums" (36 : Nat) "NamelessBox$Sums" "theirs" "[J") ∈ cx_G := cx_t1 164 (by decide +kernel) rfl
theorem hw_165 : (Jvm.Cond.fieldLink "NamelessBox$Sums" (39 : Nat) "NamelessBox$Sums" "people" "I") ∈ cx_G := cx_t1 165 (by decide +kernel) rfl
theorem hw_166 : (Jvm.Cond.fieldLink "NamelessBox$Sums" (43 : Nat) "NamelessBox$Sums" "heads" "I") ∈ cx_G := cx_t1 166 (by decide +kernel) rfl
theorem hw_190 : (Jvm.Cond.methodLink "NamelessBox" (54 : Nat) ({ cls := "NamelessBox$Ways", name := "<init>", desc := "(LNamelessBox$Box;LNamelessBox$Sums;)V" } : Jvm.MethodName)) ∈ cx_G := cx_t1 190 (by decide +kernel) rfl
theorem hw_191 : (Jvm.Cond.instanceMethod ({ cls := "NamelessBox$Ways", name := "<init>", desc := "(LNamelessBox$Box;LNamelessBox$Sums;)V" } : Jvm.MethodName)) ∈ cx_G := cx_t1 191 (by decide +kernel) rfl
theorem hw_192 : (Jvm.Cond.code ({ cls := "NamelessBox$Ways", name := "<init>", desc := "(LNamelessBox$Box;LNamelessBox$Sums;)V" } : Jvm.MethodName) prog_9_method_1_code (3 : Nat) (Option.none : Option Jvm.ClassFile.FieldType)) ∈ cx_G := cx_t1 192 (by decide +kernel) rfl
theorem hw_193 : (Jvm.Cond.methodLink "NamelessBox$Ways" (3 : Nat) ({ cls := "java/lang/Object", name := "<init>", desc := "()V" } : Jvm.MethodName)) ∈ cx_G := cx_t1 193 (by decide +kernel) rfl
theorem hw_194 : (Jvm.Cond.methodLink "NamelessBox$Ways" (76 : Nat) ({ cls := "java/util/Arrays", name := "fill", desc := "([JJ)V" } : Jvm.MethodName)) ∈ cx_G := cx_t1 194 (by decide +kernel) rfl
theorem hw_195 : (Jvm.Cond.static ({ cls := "java/util/Arrays", name := "fill", desc := "([JJ)V" } : Jvm.MethodName)) ∈ cx_G := cx_t1 195 (by decide +kernel) rfl
theorem hw_196 : (Jvm.Cond.code ({ cls := "java/util/Arrays", name := "fill", desc := "([JJ)V" } : Jvm.MethodName) prog_18_method_101_code (5 : Nat) (Option.none : Option Jvm.ClassFile.FieldType)) ∈ cx_G := cx_t1 196 (by decide +kernel) rfl
theorem hw_197 : (Jvm.Cond.fieldLink "NamelessBox$Ways" (72 : Nat) "NamelessBox$Ways" "sums" "LNamelessBox$Sums;") ∈ cx_G := cx_t1 197 (by decide +kernel) rfl
theorem hw_198 : (Jvm.Cond.fieldLink "NamelessBox" (66 : Nat) "NamelessBox$Ways" "sums" "LNamelessBox$Sums;") ∈ cx_G := cx_t1 198 (by decide +kernel) rfl
theorem hw_199 : (Jvm.Cond.fieldLink "NamelessBox$Ways" (68 : Nat) "NamelessBox$Ways" "box" "LNamelessBox$Box;") ∈ cx_G := cx_t1 199 (by decide +kernel) rfl
theorem hw_200 : (Jvm.Cond.fieldLink "NamelessBox$Ways" (9 : Nat) "NamelessBox$Ways" "detail" "I") ∈ cx_G := cx_t1 200 (by decide +kernel) rfl
theorem hw_201 : (Jvm.Cond.fieldLink "NamelessBox$Ways" (15 : Nat) "NamelessBox$Ways" "skipped" "I") ∈ cx_G := cx_t1 201 (by decide +kernel) rfl
theorem hw_202 : (Jvm.Cond.fieldLink "NamelessBox$Ways" (18 : Nat) "NamelessBox$Ways" "early" "I") ∈ cx_G := cx_t1 202 (by decide +kernel) rfl
theorem hw_203 : (Jvm.Cond.fieldLink "NamelessBox$Ways" (21 : Nat) "NamelessBox$Ways" "late" "I") ∈ cx_G := cx_t1 203 (by decide +kernel) rfl
theorem hw_204 : (Jvm.Cond.fieldLink "NamelessBox$Ways" (24 : Nat) "NamelessBox$Ways" "firstOnly" "Z") ∈ cx_G := cx_t1 204 (by decide +kernel) rfl
theorem hw_205 : (Jvm.Cond.fieldLink "NamelessBox$Ways" (28 : Nat) "NamelessBox$Ways" "firstYear" "[I") ∈ cx_G := cx_t1 205 (by decide +kernel) rfl
theorem hw_206 : (Jvm.Cond.fieldLink "NamelessBox$Ways" (32 : Nat) "NamelessBox$Ways" "years" "[I") ∈ cx_G := cx_t1 206 (by decide +kernel) rfl
theorem hw_207 : (Jvm.Cond.fieldLink "NamelessBox$Ways" (35 : Nat) "NamelessBox$Ways" "place" "[I") ∈ cx_G := cx_t1 207 (by decide +kernel) rfl
theorem hw_208 : (Jvm.Cond.fieldLink "NamelessBox$Ways" (38 : Nat) "NamelessBox$Ways" "before" "[I") ∈ cx_G := cx_t1 208 (by decide +kernel) rfl
theorem hw_209 : (Jvm.Cond.fieldLink "NamelessBox$Ways" (41 : Nat) "NamelessBox$Ways" "closing" "[I") ∈ cx_G := cx_t1 209 (by decide +kernel) rfl
theorem hw_210 : (Jvm.Cond.fieldLink "NamelessBox$Ways" (44 : Nat) "NamelessBox$Ways" "likes" "[I") ∈ cx_G := cx_t1 210 (by decide +kernel) rfl
theorem hw_211 : (Jvm.Cond.fieldLink "NamelessBox$Ways" (47 : Nat) "NamelessBox$Ways" "likeSums" "[I") ∈ cx_G := cx_t1 211 (by decide +kernel) rfl
theorem hw_212 : (Jvm.Cond.fieldLink "NamelessBox$Ways" (50 : Nat) "NamelessBox$Ways" "namings" "[I") ∈ cx_G := cx_t1 212 (by decide +kernel) rfl
theorem hw_213 : (Jvm.Cond.fieldLink "NamelessBox$Ways" (53 : Nat) "NamelessBox$Ways" "products" "[J") ∈ cx_G := cx_t1 213 (by decide +kernel) rfl
theorem hw_214 : (Jvm.Cond.fieldLink "NamelessBox$Ways" (59 : Nat) "NamelessBox$Ways" "weights" "[J") ∈ cx_G := cx_t1 214 (by decide +kernel) rfl
theorem hw_215 : (Jvm.Cond.fieldLink "NamelessBox$Ways" (62 : Nat) "NamelessBox$Ways" "subtotals" "[J") ∈ cx_G := cx_t1 215 (by decide +kernel) rfl
theorem hw_216 : (Jvm.Cond.fieldLink "NamelessBox$Ways" (65 : Nat) "NamelessBox$Ways" "way" "[I") ∈ cx_G := cx_t1 216 (by decide +kernel) rfl
theorem hw_256 : (Jvm.Cond.classLink "NamelessBox" (64 : Nat) "NamelessBox$Aunt") ∈ cx_G := cx_t2 16 (by decide +kernel) rfl
theorem hw_257 : (Jvm.Cond.instantiable "NamelessBox$Aunt" (8 : Nat)) ∈ cx_G := cx_t2 17 (by decide +kernel) rfl
theorem hw_258 : (Jvm.Cond.methodLink "NamelessBox" (70 : Nat) ({ cls := "NamelessBox$Aunt", name := "<init>", desc := "(LNamelessBox$Box;LNamelessBox$Sums;)V" } : Jvm.MethodName)) ∈ cx_G := cx_t2 18 (by decide +kernel) rfl
theorem hw_259 : (Jvm.Cond.instanceMethod ({ cls := "NamelessBox$Aunt", name := "<init>", desc := "(LNamelessBox$Box;LNamelessBox$Sums;)V" } : Jvm.MethodName)) ∈ cx_G := cx_t2 19 (by decide +kernel) rfl
theorem hw_260 : (Jvm.Cond.code ({ cls := "NamelessBox$Aunt", name := "<init>", desc := "(LNamelessBox$Box;LNamelessBox$Sums;)V" } : Jvm.MethodName) prog_2_method_1_code (3 : Nat) (Option.none : Option Jvm.ClassFile.FieldType)) ∈ cx_G := cx_t2 20 (by decide +kernel) rfl
theorem hw_261 : (Jvm.Cond.methodLink "NamelessBox$Aunt" (3 : Nat) ({ cls := "java/lang/Object", name := "<init>", desc := "()V" } : Jvm.MethodName)) ∈ cx_G := cx_t2 21 (by decide +kernel) rfl
theorem hw_262 : (Jvm.Cond.fieldLink "NamelessBox$Aunt" (11 : Nat) "NamelessBox$Aunt" "worth" "[J") ∈ cx_G := cx_t2 22 (by decide +kernel) rfl
theorem hw_263 : (Jvm.Cond.fieldLink "NamelessBox" (267 : Nat) "NamelessBox$Aunt" "worth" "[J") ∈ cx_G := cx_t2 23 (by decide +kernel) rfl
theorem hw_264 : (Jvm.Cond.fieldLink "NamelessBox$Aunt" (17 : Nat) "NamelessBox$Aunt" "dearest" "[J") ∈ cx_G := cx_t2 24 (by decide +kernel) rfl
theorem hw_265 : (Jvm.Cond.fieldLink "NamelessBox" (280 : Nat) "NamelessBox$Aunt" "dearest" "[J") ∈ cx_G := cx_t2 25 (by decide +kernel) rfl
theorem hw_266 : (Jvm.Cond.fieldLink "NamelessBox$Aunt" (20 : Nat) "NamelessBox$Aunt" "unit" "[J") ∈ cx_G := cx_t2 26 (by decide +kernel) rfl
theorem hw_267 : (Jvm.Cond.fieldLink "NamelessBox" (270 : Nat) "NamelessBox$Aunt" "unit" "[J") ∈ cx_G := cx_t2 27 (by decide +kernel) rfl
theorem hw_268 : (Jvm.Cond.fieldLink "NamelessBox$Aunt" (32 : Nat) "NamelessBox$Aunt" "box" "LNamelessBox$Box;") ∈ cx_G := cx_t2 28 (by decide +kernel) rfl
theorem hw_269 : (Jvm.Cond.fieldLink "NamelessBox$Aunt" (36 : Nat) "NamelessBox$Aunt" "sums" "LNamelessBox$Sums;") ∈ cx_G := cx_t2 29 (by decide +kernel) rfl
theorem hw_270 : (Jvm.Cond.fieldLink "NamelessBox$Aunt" (23 : Nat) "NamelessBox$Aunt" "wrongly" "[J") ∈ cx_G := cx_t2 30 (by decide +kernel) rfl
theorem hw_271 : (Jvm.Cond.fieldLink "NamelessBox$Aunt" (26 : Nat) "NamelessBox$Aunt" "guess" "[J") ∈ cx_G := cx_t2 31 (by decide +kernel) rfl
theorem hw_272 : (Jvm.Cond.fieldLink "NamelessBox$Aunt" (29 : Nat) "NamelessBox$Aunt" "most" "[J") ∈ cx_G := cx_t2 32 (by decide +kernel) rfl
theorem hw_290 : (Jvm.Cond.fieldLink "NamelessBox" (10 : Nat) "NamelessBox" "box" "LNamelessBox$Box;") ∈ cx_G := cx_t2 50 (by decide +kernel) rfl
theorem hw_291 : (Jvm.Cond.fieldLink "NamelessBox" (16 : Nat) "NamelessBox" "scratch" "LNamelessBox$Box;") ∈ cx_G := cx_t2 51 (by decide +kernel) rfl
theorem hw_292 : (Jvm.Cond.fieldLink "NamelessBox" (19 : Nat) "NamelessBox" "image0" "LNamelessBox$Box;") ∈ cx_G := cx_t2 52 (by decide +kernel) rfl
theorem hw_293 : (Jvm.Cond.fieldLink "NamelessBox" (22 : Nat) "NamelessBox" "image1" "LNamelessBox$Box;") ∈ cx_G := cx_t2 53 (by decide +kernel) rfl
theorem hw_294 : (Jvm.Cond.fieldLink "NamelessBox" (25 : Nat) "NamelessBox" "kept" "[Z") ∈ cx_G := cx_t2 54 (by decide +kernel) rfl
theorem hw_295 : (Jvm.Cond.fieldLink "NamelessBox" (32 : Nat) "NamelessBox" "text" "LNamelessBox$Text;") ∈ cx_G := cx_t2 55 (by decide +kernel) rfl
theorem hw_296 : (Jvm.Cond.fieldLink "NamelessBox" (39 : Nat) "NamelessBox" "fraction" "LNamelessBox$Fraction;") ∈ cx_G := cx_t2 56 (by decide +kernel) rfl
theorem hw_297 : (Jvm.Cond.fieldLink "NamelessBox" (43 : Nat) "NamelessBox" "refusals" "[I") ∈ cx_G := cx_t2 57 (by decide +kernel) rfl
theorem hw_298 : (Jvm.Cond.fieldLink "NamelessBox" (57 : Nat) "NamelessBox" "now" "LNamelessBox$Ways;") ∈ cx_G := cx_t2 58 (by decide +kernel) rfl
theorem hw_299 : (Jvm.Cond.fieldLink "NamelessBox" (61 : Nat) "NamelessBox" "aside" "LNamelessBox$Ways;") ∈ cx_G := cx_t2 59 (by decide +kernel) rfl
theorem hw_300 : (Jvm.Cond.fieldLink "NamelessBox" (71 : Nat) "NamelessBox" "aunt" "LNamelessBox$Aunt;") ∈ cx_G := cx_t2 60 (by decide +kernel) rfl
theorem hw_301 : (Jvm.Cond.fieldLink "NamelessBox" (75 : Nat) "NamelessBox" "summed" "I") ∈ cx_G := cx_t2 61 (by decide +kernel) rfl
theorem hw_327 : (Jvm.Cond.methodLink "NamelessBoxLaw" (13 : Nat) ({ cls := "NamelessBox", name := "person", desc := "(IIII)I" } : Jvm.MethodName)) ∈ cx_G := cx_t2 87 (by decide +kernel) rfl
theorem hw_328 : (Jvm.Cond.instanceMethod ({ cls := "NamelessBox", name := "person", desc := "(IIII)I" } : Jvm.MethodName)) ∈ cx_G := cx_t2 88 (by decide +kernel) rfl
theorem hw_329 : (Jvm.Cond.selects "NamelessBox" ({ cls := "NamelessBox", name := "person", desc := "(IIII)I" } : Jvm.MethodName) ({ cls := "NamelessBox", name := "person", desc := "(IIII)I" } : Jvm.MethodName)) ∈ cx_G := cx_t2 89 (by decide +kernel) rfl
theorem hw_330 : (Jvm.Cond.code ({ cls := "NamelessBox", name := "person", desc := "(IIII)I" } : Jvm.MethodName) prog_1_method_2_code (5 : Nat) (Option.some Jvm.ClassFile.FieldType.int)) ∈ cx_G := cx_t2 90 (by decide +kernel) rfl
theorem hw_331 : (Jvm.Cond.methodLink "NamelessBox" (79 : Nat) ({ cls := "NamelessBox$Box", name := "addPerson", desc := "(IIII)I" } : Jvm.MethodName)) ∈ cx_G := cx_t2 91 (by decide +kernel) rfl
theorem hw_332 : (Jvm.Cond.instanceMethod ({ cls := "NamelessBox$Box", name := "addPerson", desc := "(IIII)I" } : Jvm.MethodName)) ∈ cx_G := cx_t2 92 (by decide +kernel) rfl
theorem hw_333 : (Jvm.Cond.selects "NamelessBox$Box" ({ cls := "NamelessBox$Box", name := "addPerson", desc := "(IIII)I" } : Jvm.MethodName) ({ cls := "NamelessBox$Box", name := "addPerson", desc := "(IIII)I" } : Jvm.MethodName)) ∈ cx_G := cx_t2 93 (by decide +kernel) rfl
theorem hw_334 : (Jvm.Cond.code ({ cls := "NamelessBox$Box", name := "addPerson", desc := "(IIII)I" } : Jvm.MethodName) prog_3_method_4_code (6 : Nat) (Option.some Jvm.ClassFile.FieldType.int)) ∈ cx_G := cx_t2 94 (by decide +kernel) rfl
theorem hw_336 : (Jvm.Cond.static ({ cls := "NamelessBox", name := "within", desc := "(III)Z" } : Jvm.MethodName)) ∈ cx_G := cx_t2 96 (by decide +kernel) rfl
theorem hw_337 : (Jvm.Cond.code ({ cls := "NamelessBox", name := "within", desc := "(III)Z" } : Jvm.MethodName) prog_1_method_41_code (3 : Nat) (Option.some Jvm.ClassFile.FieldType.boolean)) ∈ cx_G := cx_t2 97 (by decide +kernel) rfl
theorem hw_338 : (Jvm.Cond.methodLink "NamelessBox$Box" (47 : Nat) ({ cls := "NamelessBox$Rows", name := "isFull", desc := "()Z" } : Jvm.MethodName)) ∈ cx_G := cx_t2 98 (by decide +kernel) rfl
theorem hw_339 : (Jvm.Cond.instanceMethod ({ cls := "NamelessBox$Rows", name := "isFull", desc := "()Z" } : Jvm.MethodName)) ∈ cx_G := cx_t2 99 (by decide +kernel) rfl
theorem hw_340 : (Jvm.Cond.selects "NamelessBox$Rows" ({ cls := "NamelessBox$Rows", name := "isFull", desc := "()Z" } : Jvm.MethodName) ({ cls := "NamelessBox$Rows", name := "isFull", desc := "()Z" } : Jvm.MethodName)) ∈ cx_G := cx_t2 100 (by decide +kernel) rfl
theorem hw_341 : (Jvm.Cond.code ({ cls := "NamelessBox$Rows", name := "isFull", desc := "()Z" } : Jvm.MethodName) prog_6_method_3_code (1 : Nat) (Option.some Jvm.ClassFile.FieldType.boolean)) ∈ cx_G := cx_t2 101 (by decide +kernel) rfl
theorem hw_342 : (Jvm.Cond.methodLink "NamelessBox$Box" (51 : Nat) ({ cls := "NamelessBox$Rows", name := "grow", desc := "()I" } : Jvm.MethodName)) ∈ cx_G := cx_t2 102 (by decide +kernel) rfl
theorem hw_343 : (Jvm.Cond.instanceMethod ({ cls := "NamelessBox$Rows", name := "grow", desc := "()I" } : Jvm.MethodName)) ∈ cx_G := cx_t2 103 (by decide +kernel) rfl
theorem hw_344 : (Jvm.Cond.selects "NamelessBox$Rows" ({ cls := "NamelessBox$Rows", name := "grow", desc := "()I" } : Jvm.MethodName) ({ cls := "NamelessBox$Rows", name := "grow", desc := "()I" } : Jvm.MethodName)) ∈ cx_G := cx_t2 104 (by decide +kernel) rfl
theorem hw_345 : (Jvm.Cond.code ({ cls := "NamelessBox$Rows", name := "grow", desc := "()I" } : Jvm.MethodName) prog_6_method_6_code (1 : Nat) (Option.some Jvm.ClassFile.FieldType.int)) ∈ cx_G := cx_t2 105 (by decide +kernel) rfl
theorem hw_346 : (Jvm.Cond.methodLink "NamelessBox$Rows" (39 : Nat) ({ cls := "NamelessBox$Rows", name := "isFull", desc := "()Z" } : Jvm.MethodName)) ∈ cx_G := cx_t2 106 (by decide +kernel) rfl
theorem hw_347 : (Jvm.Cond.methodLink "NamelessBox$Box" (55 : Nat) ({ cls := "NamelessBox$Rows", name := "put", desc := "(III)V" } : Jvm.MethodName)) ∈ cx_G := cx_t2 107 (by decide +kernel) rfl
theorem hw_348 : (Jvm.Cond.instanceMethod ({ cls := "NamelessBox$Rows", name := "put", desc := "(III)V" } : Jvm.MethodName)) ∈ cx_G := cx_t2 108 (by decide +kernel) rfl
theorem hw_349 : (Jvm.Cond.selects "NamelessBox$Rows" ({ cls := "NamelessBox$Rows", name := "put", desc := "(III)V" } : Jvm.MethodName) ({ cls := "NamelessBox$Rows", name := "put", desc := "(III)V" } : Jvm.MethodName)) ∈ cx_G := cx_t2 109 (by decide +kernel) rfl
theorem hw_350 : (Jvm.Cond.code ({ cls := "NamelessBox$Rows", name := "put", desc := "(III)V" } : Jvm.MethodName) prog_6_method_5_code (4 : Nat) (Option.none : Option Jvm.ClassFile.FieldType)) ∈ cx_G := cx_t2 110 (by decide +kernel) rfl
theorem hw_351 : (Jvm.Cond.methodLink "NamelessBox$Rows" (31 : Nat) ({ cls := "NamelessBox$Rows", name := "has", desc := "(I)Z" } : Jvm.MethodName)) ∈ cx_G := cx_t2 111 (by decide +kernel) rfl
theorem hw_352 : (Jvm.Cond.instanceMethod ({ cls := "NamelessBox$Rows", name := "has", desc := "(I)Z" } : Jvm.MethodName)) ∈ cx_G := cx_t2 112 (by decide +kernel) rfl
theorem hw_353 : (Jvm.Cond.selects "NamelessBox$Rows" ({ cls := "NamelessBox$Rows", name := "has", desc := "(I)Z" } : Jvm.MethodName) ({ cls := "NamelessBox$Rows", name := "has", desc := "(I)Z" } : Jvm.MethodName)) ∈ cx_G := cx_t2 113 (by decide +kernel) rfl
theorem hw_354 : (Jvm.Cond.code ({ cls := "NamelessBox$Rows", name := "has", desc := "(I)Z" } : Jvm.MethodName) prog_6_method_2_code (2 : Nat) (Option.some Jvm.ClassFile.FieldType.boolean)) ∈ cx_G := cx_t2 114 (by decide +kernel) rfl
theorem hw_356 : (Jvm.Cond.methodLink "NamelessBox" (83 : Nat) ({ cls := "NamelessBox", name := "told", desc := "(I)I" } : Jvm.MethodName)) ∈ cx_G := cx_t2 116 (by decide +kernel) rfl
theorem hw_358 : (Jvm.Cond.instanceMethod ({ cls := "NamelessBox", name := "told", desc := "(I)I" } : Jvm.MethodName)) ∈ cx_G := cx_t2 118 (by decide +kernel) rfl
theorem hw_359 : (Jvm.Cond.code ({ cls := "NamelessBox", name := "told", desc := "(I)I" } : Jvm.MethodName) prog_1_method_47_code (2 : Nat) (Option.some Jvm.ClassFile.FieldType.int)) ∈ cx_G := cx_t2 119 (by decide +kernel) rfl
theorem hw_360 : (Jvm.Cond.methodLink "NamelessBox" (125 : Nat) ({ cls := "NamelessBox", name := "refused", desc := "(I)I" } : Jvm.MethodName)) ∈ cx_G := cx_t2 120 (by decide +kernel) rfl
theorem hw_362 : (Jvm.Cond.instanceMethod ({ cls := "NamelessBox", name := "refused", desc := "(I)I" } : Jvm.MethodName)) ∈ cx_G := cx_t2 122 (by decide +kernel) rfl
theorem hw_363 : (Jvm.Cond.code ({ cls := "NamelessBox", name := "refused", desc := "(I)I" } : Jvm.MethodName) prog_1_method_48_code (3 : Nat) (Option.some Jvm.ClassFile.FieldType.int)) ∈ cx_G := cx_t2 123 (by decide +kernel) rfl
theorem hw_364 : (Jvm.Cond.methodLink "NamelessBoxLaw" (18 : Nat) ({ cls := "NamelessBox", name := "parent", desc := "(II)I" } : Jvm.MethodName)) ∈ cx_G := cx_t2 124 (by decide +kernel) rfl
theorem hw_365 : (Jvm.Cond.instanceMethod ({ cls := "NamelessBox", name := "parent", desc := "(II)I" } : Jvm.MethodName)) ∈ cx_G := cx_t2 125 (by decide +kernel) rfl
theorem hw_366 : (Jvm.Cond.selects "NamelessBox" ({ cls := "NamelessBox", name := "parent", desc := "(II)I" } : Jvm.MethodName) ({ cls := "NamelessBox", name := "parent", desc := "(II)I" } : Jvm.MethodName)) ∈ cx_G := cx_t2 126 (by decide +kernel) rfl
theorem hw_367 : (Jvm.Cond.code ({ cls := "NamelessBox", name := "parent", desc := "(II)I" } : Jvm.MethodName) prog_1_method_3_code (3 : Nat) (Option.some Jvm.ClassFile.FieldType.int)) ∈ cx_G := cx_t2 127 (by decide +kernel) rfl
theorem hw_368 : (Jvm.Cond.methodLink "NamelessBox" (87 : Nat) ({ cls := "NamelessBox$Box", name := "setParent", desc := "(II)I" } : Jvm.MethodName)) ∈ cx_G := cx_t2 128 (by decide +kernel) rfl
theorem hw_369 : (Jvm.Cond.instanceMethod ({ cls := "NamelessBox$Box", name := "setParent", desc := "(II)I" } : Jvm.MethodName)) ∈ cx_G := cx_t2 129 (by decide +kernel) rfl
theorem hw_370 : (Jvm.Cond.selects "NamelessBox$Box" ({ cls := "NamelessBox$Box", name := "setParent", desc := "(II)I" } : Jvm.MethodName) ({ cls := "NamelessBox$Box", name := "setParent", desc := "(II)I" } : Jvm.MethodName)) ∈ cx_G := cx_t2 130 (by decide +kernel) rfl
theorem hw_371 : (Jvm.Cond.code ({ cls := "NamelessBox$Box", name := "setParent", desc := "(II)I" } : Jvm.MethodName) prog_3_method_5_code (4 : Nat) (Option.some Jvm.ClassFile.FieldType.int)) ∈ cx_G := cx_t2 131 (by decide +kernel) rfl
theorem hw_372 : (Jvm.Cond.methodLink "NamelessBox$Box" (59 : Nat) ({ cls := "NamelessBox$Rows", name := "has", desc := "(I)Z" } : Jvm.MethodName)) ∈ cx_G := cx_t2 132 (by decide +kernel) rfl
theorem hw_373 : (Jvm.Cond.methodLink "NamelessBox$Box" (63 : Nat) ({ cls := "NamelessBox$Box", name := "mayBeParent", desc := "(II)Z" } : Jvm.MethodName)) ∈ cx_G := cx_t2 133 (by decide +kernel) rfl
theorem hw_375 : (Jvm.Cond.instanceMethod ({ cls := "NamelessBox$Box", name := "mayBeParent", desc := "(II)Z" } : Jvm.MethodName)) ∈ cx_G := cx_t2 135 (by decide +kernel) rfl
theorem hw_376 : (Jvm.Cond.code ({ cls := "NamelessBox$Box", name := "mayBeParent", desc := "(II)Z" } : Jvm.MethodName) prog_3_method_6_code (4 : Nat) (Option.some Jvm.ClassFile.FieldType.boolean)) ∈ cx_G := cx_t2 136 (by decide +kernel) rfl
theorem hw_377 : (Jvm.Cond.methodLink "NamelessBox$Box" (67 : Nat) ({ cls := "NamelessBox$Rows", name := "at", desc := "(II)I" } : Jvm.MethodName)) ∈ cx_G := cx_t2 137 (by decide +kernel) rfl
theorem hw_378 : (Jvm.Cond.instanceMethod ({ cls := "NamelessBox$Rows", name := "at", desc := "(II)I" } : Jvm.MethodName)) ∈ cx_G := cx_t2 138 (by decide +kernel) rfl
theorem hw_379 : (Jvm.Cond.selects "NamelessBox$Rows" ({ cls := "NamelessBox$Rows", name := "at", desc := "(II)I" } : Jvm.MethodName) ({ cls := "NamelessBox$Rows", name := "at", desc := "(II)I" } : Jvm.MethodName)) ∈ cx_G := cx_t2 139 (by decide +kernel) rfl
theorem hw_380 : (Jvm.Cond.code ({ cls := "NamelessBox$Rows", name := "at", desc := "(II)I" } : Jvm.MethodName) prog_6_method_4_code (3 : Nat) (Option.some Jvm.ClassFile.FieldType.int)) ∈ cx_G := cx_t2 140 (by decide +kernel) rfl
theorem hw_381 : (Jvm.Cond.methodLink "NamelessBoxLaw" (23 : Nat) ({ cls := "NamelessBox", name := "near", desc := "(II)I" } : Jvm.MethodName)) ∈ cx_G := cx_t2 141 (by decide +kernel) rfl
theorem hw_382 : (Jvm.Cond.instanceMethod ({ cls := "NamelessBox", name := "near", desc := "(II)I" } : Jvm.MethodName)) ∈ cx_G := cx_t2 142 (by decide +kernel) rfl
theorem hw_383 : (Jvm.Cond.selects "NamelessBox" ({ cls := "NamelessBox", name := "near", desc := "(II)I" } : Jvm.MethodName) ({ cls := "NamelessBox", name := "near", desc := "(II)I" } : Jvm.MethodName)) ∈ cx_G := cx_t2 143 (by decide +kernel) rfl
theorem hw_384 : (Jvm.Cond.code ({ cls := "NamelessBox", name := "near", desc := "(II)I" } : Jvm.MethodName) prog_1_method_4_code (3 : Nat) (Option.some Jvm.ClassFile.FieldType.int)) ∈ cx_G := cx_t2 144 (by decide +kernel) rfl
theorem hw_385 : (Jvm.Cond.methodLink "NamelessBox" (91 : Nat) ({ cls := "NamelessBox$Box", name := "setNear", desc := "(II)I" } : Jvm.MethodName)) ∈ cx_G := cx_t2 145 (by decide +kernel) rfl
theorem hw_386 : (Jvm.Cond.instanceMethod ({ cls := "NamelessBox$Box", name := "setNear", desc := "(II)I" } : Jvm.MethodName)) ∈ cx_G := cx_t2 146 (by decide +kernel) rfl
theorem hw_387 : (Jvm.Cond.selects "NamelessBox$Box" ({ cls := "NamelessBox$Box", name := "setNear", desc := "(II)I" } : Jvm.MethodName) ({ cls := "NamelessBox$Box", name := "setNear", desc := "(II)I" } : Jvm.MethodName)) ∈ cx_G := cx_t2 147 (by decide +kernel) rfl
theorem hw_388 : (Jvm.Cond.code ({ cls := "NamelessBox$Box", name := "setNear", desc := "(II)I" } : Jvm.MethodName) prog_3_method_7_code (4 : Nat) (Option.some Jvm.ClassFile.FieldType.int)) ∈ cx_G := cx_t2 148 (by decide +kernel) rfl
theorem hw_389 : (Jvm.Cond.methodLink "NamelessBoxLaw" (27 : Nat) ({ cls := "NamelessBox", name := "picture", desc := "(II)I" } : Jvm.MethodName)) ∈ cx_G := cx_t2 149 (by decide +kernel) rfl
theorem hw_390 : (Jvm.Cond.instanceMethod ({ cls := "NamelessBox", name := "picture", desc := "(II)I" } : Jvm.MethodName)) ∈ cx_G := cx_t2 150 (by decide +kernel) rfl
theorem hw_391 : (Jvm.Cond.selects "NamelessBox" ({ cls := "NamelessBox", name := "picture", desc := "(II)I" } : Jvm.MethodName) ({ cls := "NamelessBox", name := "picture", desc := "(II)I" } : Jvm.MethodName)) ∈ cx_G := cx_t2 151 (by decide +kernel) rfl
theorem hw_392 : (Jvm.Cond.code ({ cls := "NamelessBox", name := "picture", desc := "(II)I" } : Jvm.MethodName) prog_1_method_5_code (3 : Nat) (Option.some Jvm.ClassFile.FieldType.int)) ∈ cx_G := cx_t2 152 (by decide +kernel) rfl
theorem hw_393 : (Jvm.Cond.methodLink "NamelessBox" (94 : Nat) ({ cls := "NamelessBox$Box", name := "addPicture", desc := "(II)I" } : Jvm.MethodName)) ∈ cx_G := cx_t2 153 (by decide +kernel) rfl
theorem hw_394 : (Jvm.Cond.instanceMethod ({ cls := "NamelessBox$Box", name := "addPicture", desc := "(II)I" } : Jvm.MethodName)) ∈ cx_G := cx_t2 154 (by decide +kernel) rfl
theorem hw_395 : (Jvm.Cond.selects "NamelessBox$Box" ({ cls := "NamelessBox$Box", name := "addPicture", desc := "(II)I" } : Jvm.MethodName) ({ cls := "NamelessBox$Box", name := "addPicture", desc := "(II)I" } : Jvm.MethodName)) ∈ cx_G := cx_t2 155 (by decide +kernel) rfl
theorem hw_396 : (Jvm.Cond.code ({ cls := "NamelessBox$Box", name := "addPicture", desc := "(II)I" } : Jvm.MethodName) prog_3_method_8_code (4 : Nat) (Option.some Jvm.ClassFile.FieldType.int)) ∈ cx_G := cx_t2 156 (by decide +kernel) rfl
theorem hw_397 : (Jvm.Cond.methodLink "NamelessBoxLaw" (31 : Nat) ({ cls := "NamelessBox", name := "head", desc := "(IIIII)I" } : Jvm.MethodName)) ∈ cx_G := cx_t2 157 (by decide +kernel) rfl
theorem hw_398 : (Jvm.Cond.instanceMethod ({ cls := "NamelessBox", name := "head", desc := "(IIIII)I" } : Jvm.MethodName)) ∈ cx_G := cx_t2 158 (by decide +kernel) rfl
theorem hw_399 : (Jvm.Cond.selects "NamelessBox" ({ cls := "NamelessBox", name := "head", desc := "(IIIII)I" } : Jvm.MethodName) ({ cls := "NamelessBox", name := "head", desc := "(IIIII)I" } : Jvm.MethodName)) ∈ cx_G := cx_t2 159 (by decide +kernel) rfl
theorem hw_400 : (Jvm.Cond.code ({ cls := "NamelessBox", name := "head", desc := "(IIIII)I" } : Jvm.MethodName) prog_1_method_6_code (6 : Nat) (Option.some Jvm.ClassFile.FieldType.int)) ∈ cx_G := cx_t2 160 (by decide +kernel) rfl
theorem hw_401 : (Jvm.Cond.methodLink "NamelessBox" (97 : Nat) ({ cls := "NamelessBox$Box", name := "addHead", desc := "(IIIII)I" } : Jvm.MethodName)) ∈ cx_G := cx_t2 161 (by decide +kernel) rfl
theorem hw_402 : (Jvm.Cond.instanceMethod ({ cls := "NamelessBox$Box", name := "addHead", desc := "(IIIII)I" } : Jvm.MethodName)) ∈ cx_G := cx_t2 162 (by decide +kernel) rfl
theorem hw_403 : (Jvm.Cond.selects "NamelessBox$Box" ({ cls := "NamelessBox$Box", name := "addHead", desc := "(IIIII)I" } : Jvm.MethodName) ({ cls := "NamelessBox$Box", name := "addHead", desc := "(IIIII)I" } : Jvm.MethodName)) ∈ cx_G := cx_t2 163 (by decide +kernel) rfl
theorem hw_404 : (Jvm.Cond.code ({ cls := "NamelessBox$Box", name := "addHead", desc := "(IIIII)I" } : Jvm.MethodName) prog_3_method_9_code (7 : Nat) (Option.some Jvm.ClassFile.FieldType.int)) ∈ cx_G := cx_t2 164 (by decide +kernel) rfl
theorem hw_405 : (Jvm.Cond.methodLink "NamelessBoxLaw" (36 : Nat) ({ cls := "NamelessBox", name := "name", desc := "(IIII)I" } : Jvm.MethodName)) ∈ cx_G := cx_t2 165 (by decide +kernel) rfl
theorem hw_406 : (Jvm.Cond.instanceMethod ({ cls := "NamelessBox", name := "name", desc := "(IIII)I" } : Jvm.MethodName)) ∈ cx_G := cx_t2 166 (by decide +kernel) rfl
theorem hw_407 : (Jvm.Cond.selects "NamelessBox" ({ cls := "NamelessBox", name := "name", desc := "(IIII)I" } : Jvm.MethodName) ({ cls := "NamelessBox", name := "name", desc := "(IIII)I" } : Jvm.MethodName)) ∈ cx_G := cx_t2 167 (by decide +kernel) rfl
theorem hw_408 : (Jvm.Cond.code ({ cls := "NamelessBox", name := "name", desc := "(IIII)I" } : Jvm.MethodName) prog_1_method_7_code (5 : Nat) (Option.some Jvm.ClassFile.FieldType.int)) ∈ cx_G := cx_t2 168 (by decide +kernel) rfl
theorem hw_409 : (Jvm.Cond.methodLink "NamelessBox" (101 : Nat) ({ cls := "NamelessBox$Box", name := "addName", desc := "(IIII)I" } : Jvm.MethodName)) ∈ cx_G := cx_t2 169 (by decide +kernel) rfl
theorem hw_410 : (Jvm.Cond.instanceMethod ({ cls := "NamelessBox$Box", name := "addName", desc := "(IIII)I" } : Jvm.MethodName)) ∈ cx_G := cx_t2 170 (by decide +kernel) rfl
theorem hw_411 : (Jvm.Cond.selects "NamelessBox$Box" ({ cls := "NamelessBox$Box", name := "addName", desc := "(IIII)I" } : Jvm.MethodName) ({ cls := "NamelessBox$Box", name := "addName", desc := "(IIII)I" } : Jvm.MethodName)) ∈ cx_G := cx_t2 171 (by decide +kernel) rfl
theorem hw_412 : (Jvm.Cond.code ({ cls := "NamelessBox$Box", name := "addName", desc := "(IIII)I" } : Jvm.MethodName) prog_3_method_10_code (6 : Nat) (Option.some Jvm.ClassFile.FieldType.int)) ∈ cx_G := cx_t2 172 (by decide +kernel) rfl
theorem hw_413 : (Jvm.Cond.methodLink "NamelessBoxLaw" (40 : Nat) ({ cls := "NamelessBox", name := "join", desc := "(III)I" } : Jvm.MethodName)) ∈ cx_G := cx_t2 173 (by decide +kernel) rfl
theorem hw_414 : (Jvm.Cond.instanceMethod ({ cls := "NamelessBox", name := "join", desc := "(III)I" } : Jvm.MethodName)) ∈ cx_G := cx_t2 174 (by decide +kernel) rfl
theorem hw_415 : (Jvm.Cond.selects "NamelessBox" ({ cls := "NamelessBox", name := "join", desc := "(III)I" } : Jvm.MethodName) ({ cls := "NamelessBox", name := "join", desc := "(III)I" } : Jvm.MethodName)) ∈ cx_G := cx_t2 175 (by decide +kernel) rfl
theorem hw_416 : (Jvm.Cond.code ({ cls := "NamelessBox", name := "join", desc := "(III)I" } : Jvm.MethodName) prog_1_method_8_code (4 : Nat) (Option.some Jvm.ClassFile.FieldType.int)) ∈ cx_G := cx_t2 176 (by decide +kernel) rfl
theorem hw_417 : (Jvm.Cond.methodLink "NamelessBox" (104 : Nat) ({ cls := "NamelessBox$Box", name := "addJoin", desc := "(III)I" } : Jvm.MethodName)) ∈ cx_G := cx_t2 177 (by decide +kernel) rfl
theorem hw_418 : (Jvm.Cond.instanceMethod ({ cls := "NamelessBox$Box", name := "addJoin", desc := "(III)I" } : Jvm.MethodName)) ∈ cx_G := cx_t2 178 (by decide +kernel) rfl
theorem hw_419 : (Jvm.Cond.selects "NamelessBox$Box" ({ cls := "NamelessBox$Box", name := "addJoin", desc := "(III)I" } : Jvm.MethodName) ({ cls := "NamelessBox$Box", name := "addJoin", desc := "(III)I" } : Jvm.MethodName)) ∈ cx_G := cx_t2 179 (by decide +kernel) rfl
theorem hw_420 : (Jvm.Cond.code ({ cls := "NamelessBox$Box", name := "addJoin", desc := "(III)I" } : Jvm.MethodName) prog_3_method_11_code (5 : Nat) (Option.some Jvm.ClassFile.FieldType.int)) ∈ cx_G := cx_t2 180 (by decide +kernel) rfl
theorem hw_421 : (Jvm.Cond.methodLink "NamelessBoxLaw" (45 : Nat) ({ cls := "NamelessBox", name := "strange", desc := "(I)I" } : Jvm.MethodName)) ∈ cx_G := cx_t2 181 (by decide +kernel) rfl
theorem hw_422 : (Jvm.Cond.instanceMethod ({ cls := "NamelessBox", name := "strange", desc := "(I)I" } : Jvm.MethodName)) ∈ cx_G := cx_t2 182 (by decide +kernel) rfl
theorem hw_423 : (Jvm.Cond.selects "NamelessBox" ({ cls := "NamelessBox", name := "strange", desc := "(I)I" } : Jvm.MethodName) ({ cls := "NamelessBox", name := "strange", desc := "(I)I" } : Jvm.MethodName)) ∈ cx_G := cx_t2 183 (by decide +kernel) rfl
theorem hw_424 : (Jvm.Cond.code ({ cls := "NamelessBox", name := "strange", desc := "(I)I" } : Jvm.MethodName) prog_1_method_9_code (2 : Nat) (Option.some Jvm.ClassFile.FieldType.int)) ∈ cx_G := cx_t2 184 (by decide +kernel) rfl
theorem hw_425 : (Jvm.Cond.methodLink "NamelessBox" (108 : Nat) ({ cls := "NamelessBox$Box", name := "setStrange", desc := "(I)I" } : Jvm.MethodName)) ∈ cx_G := cx_t2 185 (by decide +kernel) rfl
theorem hw_426 : (Jvm.Cond.instanceMethod ({ cls := "NamelessBox$Box", name := "setStrange", desc := "(I)I" } : Jvm.MethodName)) ∈ cx_G := cx_t2 186 (by decide +kernel) rfl
theorem hw_427 : (Jvm.Cond.selects "NamelessBox$Box" ({ cls := "NamelessBox$Box", name := "setStrange", desc := "(I)I" } : Jvm.MethodName) ({ cls := "NamelessBox$Box", name := "setStrange", desc := "(I)I" } : Jvm.MethodName)) ∈ cx_G := cx_t2 187 (by decide +kernel) rfl
theorem hw_428 : (Jvm.Cond.code ({ cls := "NamelessBox$Box", name := "setStrange", desc := "(I)I" } : Jvm.MethodName) prog_3_method_12_code (3 : Nat) (Option.some Jvm.ClassFile.FieldType.int)) ∈ cx_G := cx_t2 188 (by decide +kernel) rfl
theorem hw_429 : (Jvm.Cond.methodLink "NamelessBoxLaw" (50 : Nat) ({ cls := "NamelessBox", name := "mark", desc := "(II)I" } : Jvm.MethodName)) ∈ cx_G := cx_t2 189 (by decide +kernel) rfl
theorem hw_430 : (Jvm.Cond.instanceMethod ({ cls := "NamelessBox", name := "mark", desc := "(II)I" } : Jvm.MethodName)) ∈ cx_G := cx_t2 190 (by decide +kernel) rfl
theorem hw_431 : (Jvm.Cond.selects "NamelessBox" ({ cls := "NamelessBox", name := "mark", desc := "(II)I" } : Jvm.MethodName) ({ cls := "NamelessBox", name := "mark", desc := "(II)I" } : Jvm.MethodName)) ∈ cx_G := cx_t2 191 (by decide +kernel) rfl
theorem hw_432 : (Jvm.Cond.code ({ cls := "NamelessBox", name := "mark", desc := "(II)I" } : Jvm.MethodName) prog_1_method_10_code (3 : Nat) (Option.some Jvm.ClassFile.FieldType.int)) ∈ cx_G := cx_t2 192 (by decide +kernel) rfl
theorem hw_433 : (Jvm.Cond.methodLink "NamelessBox" (115 : Nat) ({ cls := "NamelessBox$Rows", name := "has", desc := "(I)Z" } : Jvm.MethodName)) ∈ cx_G := cx_t2 193 (by decide +kernel) rfl
theorem hw_434 : (Jvm.Cond.methodLink "NamelessBox" (121 : Nat) ({ cls := "NamelessBox", name := "within", desc := "(III)Z" } : Jvm.MethodName)) ∈ cx_G := cx_t2 194 (by decide +kernel) rfl
theorem hw_435 : (Jvm.Cond.methodLink "NamelessBox" (128 : Nat) ({ cls := "NamelessBox$Box", name := "markOf", desc := "(II)I" } : Jvm.MethodName)) ∈ cx_G := cx_t2 195 (by decide +kernel) rfl
theorem hw_436 : (Jvm.Cond.instanceMethod ({ cls := "NamelessBox$Box", name := "markOf", desc := "(II)I" } : Jvm.MethodName)) ∈ cx_G := cx_t2 196 (by decide +kernel) rfl
theorem hw_437 : (Jvm.Cond.selects "NamelessBox$Box" ({ cls := "NamelessBox$Box", name := "markOf", desc := "(II)I" } : Jvm.MethodName) ({ cls := "NamelessBox$Box", name := "markOf", desc := "(II)I" } : Jvm.MethodName)) ∈ cx_G := cx_t2 197 (by decide +kernel) rfl
theorem hw_438 : (Jvm.Cond.code ({ cls := "NamelessBox$Box", name := "markOf", desc := "(II)I" } : Jvm.MethodName) prog_3_method_13_code (5 : Nat) (Option.some Jvm.ClassFile.FieldType.int)) ∈ cx_G := cx_t2 198 (by decide +kernel) rfl
theorem hw_439 : (Jvm.Cond.methodLink "NamelessBoxLaw" (54 : Nat) ({ cls := "NamelessBox", name := "like", desc := "(III)I" } : Jvm.MethodName)) ∈ cx_G := cx_t2 199 (by decide +kernel) rfl
theorem hw_440 : (Jvm.Cond.instanceMethod ({ cls := "NamelessBox", name := "like", desc := "(III)I" } : Jvm.MethodName)) ∈ cx_G := cx_t2 200 (by decide +kernel) rfl
theorem hw_441 : (Jvm.Cond.selects "NamelessBox" ({ cls := "NamelessBox", name := "like", desc := "(III)I" } : Jvm.MethodName) ({ cls := "NamelessBox", name := "like", desc := "(III)I" } : Jvm.MethodName)) ∈ cx_G := cx_t2 201 (by decide +kernel) rfl
theorem hw_442 : (Jvm.Cond.code ({ cls := "NamelessBox", name := "like", desc := "(III)I" } : Jvm.MethodName) prog_1_method_11_code (5 : Nat) (Option.some Jvm.ClassFile.FieldType.int)) ∈ cx_G := cx_t2 202 (by decide +kernel) rfl
theorem hw_443 : (Jvm.Cond.methodLink "NamelessBox" (134 : Nat) ({ cls := "NamelessBox", name := "isWho", desc := "(I)Z" } : Jvm.MethodName)) ∈ cx_G := cx_t2 203 (by decide +kernel) rfl
theorem hw_445 : (Jvm.Cond.instanceMethod ({ cls := "NamelessBox", name := "isWho", desc := "(I)Z" } : Jvm.MethodName)) ∈ cx_G := cx_t2 205 (by decide +kernel) rfl
theorem hw_446 : (Jvm.Cond.code ({ cls := "NamelessBox", name := "isWho", desc := "(I)Z" } : Jvm.MethodName) prog_1_method_42_code (2 : Nat) (Option.some Jvm.ClassFile.FieldType.boolean)) ∈ cx_G := cx_t2 206 (by decide +kernel) rfl
theorem hw_447 : (Jvm.Cond.methodLink "NamelessBox" (137 : Nat) ({ cls := "NamelessBox", name := "whoIs", desc := "(I)I" } : Jvm.MethodName)) ∈ cx_G := cx_t2 207 (by decide +kernel) rfl
theorem hw_448 : (Jvm.Cond.static ({ cls := "NamelessBox", name := "whoIs", desc := "(I)I" } : Jvm.MethodName)) ∈ cx_G := cx_t2 208 (by decide +kernel) rfl
theorem hw_449 : (Jvm.Cond.code ({ cls := "NamelessBox", name := "whoIs", desc := "(I)I" } : Jvm.MethodName) prog_1_method_43_code (1 : Nat) (Option.some Jvm.ClassFile.FieldType.int)) ∈ cx_G := cx_t2 209 (by decide +kernel) rfl
theorem hw_450 : (Jvm.Cond.methodLink "NamelessBox" (140 : Nat) ({ cls := "NamelessBox$Box", name := "marksLike", desc := "(II)I" } : Jvm.MethodName)) ∈ cx_G := cx_t2 210 (by decide +kernel) rfl
theorem hw_451 : (Jvm.Cond.instanceMethod ({ cls := "NamelessBox$Box", name := "marksLike", desc := "(II)I" } : Jvm.MethodName)) ∈ cx_G := cx_t2 211 (by decide +kernel) rfl
theorem hw_452 : (Jvm.Cond.selects "NamelessBox$Box" ({ cls := "NamelessBox$Box", name := "marksLike", desc := "(II)I" } : Jvm.MethodName) ({ cls := "NamelessBox$Box", name := "marksLike", desc := "(II)I" } : Jvm.MethodName)) ∈ cx_G := cx_t2 212 (by decide +kernel) rfl
theorem hw_453 : (Jvm.Cond.code ({ cls := "NamelessBox$Box", name := "marksLike", desc := "(II)I" } : Jvm.MethodName) prog_3_method_14_code (7 : Nat) (Option.some Jvm.ClassFile.FieldType.int)) ∈ cx_G := cx_t2 213 (by decide +kernel) rfl
theorem hw_454 : (Jvm.Cond.methodLink "NamelessBox$Box" (71 : Nat) ({ cls := "NamelessBox$Box", name := "markOf", desc := "(II)I" } : Jvm.MethodName)) ∈ cx_G := cx_t2 214 (by decide +kernel) rfl
theorem hw_455 : (Jvm.Cond.methodLink "NamelessBox" (143 : Nat) ({ cls := "NamelessBox$Box", name := "ageLike", desc := "(III)I" } : Jvm.MethodName)) ∈ cx_G := cx_t2 215 (by decide +kernel) rfl
theorem hw_456 : (Jvm.Cond.instanceMethod ({ cls := "NamelessBox$Box", name := "ageLike", desc := "(III)I" } : Jvm.MethodName)) ∈ cx_G := cx_t2 216 (by decide +kernel) rfl
theorem hw_457 : (Jvm.Cond.selects "NamelessBox$Box" ({ cls := "NamelessBox$Box", name := "ageLike", desc := "(III)I" } : Jvm.MethodName) ({ cls := "NamelessBox$Box", name := "ageLike", desc := "(III)I" } : Jvm.MethodName)) ∈ cx_G := cx_t2 217 (by decide +kernel) rfl
theorem hw_458 : (Jvm.Cond.code ({ cls := "NamelessBox$Box", name := "ageLike", desc := "(III)I" } : Jvm.MethodName) prog_3_method_15_code (7 : Nat) (Option.some Jvm.ClassFile.FieldType.int)) ∈ cx_G := cx_t2 218 (by decide +kernel) rfl
theorem hw_459 : (Jvm.Cond.methodLink "NamelessBoxLaw" (58 : Nat) ({ cls := "NamelessBox", name := "truth", desc := "(I)I" } : Jvm.MethodName)) ∈ cx_G := cx_t2 219 (by decide +kernel) rfl
theorem hw_460 : (Jvm.Cond.instanceMethod ({ cls := "NamelessBox", name := "truth", desc := "(I)I" } : Jvm.MethodName)) ∈ cx_G := cx_t2 220 (by decide +kernel) rfl
theorem hw_461 : (Jvm.Cond.selects "NamelessBox" ({ cls := "NamelessBox", name := "truth", desc := "(I)I" } : Jvm.MethodName) ({ cls := "NamelessBox", name := "truth", desc := "(I)I" } : Jvm.MethodName)) ∈ cx_G := cx_t2 221 (by decide +kernel) rfl
theorem hw_462 : (Jvm.Cond.code ({ cls := "NamelessBox", name := "truth", desc := "(I)I" } : Jvm.MethodName) prog_1_method_12_code (2 : Nat) (Option.some Jvm.ClassFile.FieldType.int)) ∈ cx_G := cx_t2 222 (by decide +kernel) rfl
theorem hw_463 : (Jvm.Cond.methodLink "NamelessBox" (149 : Nat) ({ cls := "NamelessBox$Box", name := "truthOf", desc := "(I)I" } : Jvm.MethodName)) ∈ cx_G := cx_t2 223 (by decide +kernel) rfl
theorem hw_464 : (Jvm.Cond.instanceMethod ({ cls := "NamelessBox$Box", name := "truthOf", desc := "(I)I" } : Jvm.MethodName)) ∈ cx_G := cx_t2 224 (by decide +kernel) rfl
theorem hw_465 : (Jvm.Cond.selects "NamelessBox$Box" ({ cls := "NamelessBox$Box", name := "truthOf", desc := "(I)I" } : Jvm.MethodName) ({ cls := "NamelessBox$Box", name := "truthOf", desc := "(I)I" } : Jvm.MethodName)) ∈ cx_G := cx_t2 225 (by decide +kernel) rfl
theorem hw_466 : (Jvm.Cond.code ({ cls := "NamelessBox$Box", name := "truthOf", desc := "(I)I" } : Jvm.MethodName) prog_3_method_16_code (3 : Nat) (Option.some Jvm.ClassFile.FieldType.int)) ∈ cx_G := cx_t2 226 (by decide +kernel) rfl
theorem hw_467 : (Jvm.Cond.methodLink "NamelessBoxLaw" (64 : Nat) ({ cls := "NamelessBox", name := "type", desc := "(JI)I" } : Jvm.MethodName)) ∈ cx_G := cx_t2 227 (by decide +kernel) rfl
theorem hw_468 : (Jvm.Cond.instanceMethod ({ cls := "NamelessBox", name := "type", desc := "(JI)I" } : Jvm.MethodName)) ∈ cx_G := cx_t2 228 (by decide +kernel) rfl
theorem hw_469 : (Jvm.Cond.selects "NamelessBox" ({ cls := "NamelessBox", name := "type", desc := "(JI)I" } : Jvm.MethodName) ({ cls := "NamelessBox", name := "type", desc := "(JI)I" } : Jvm.MethodName)) ∈ cx_G := cx_t2 229 (by decide +kernel) rfl
theorem hw_470 : (Jvm.Cond.code ({ cls := "NamelessBox", name := "type", desc := "(JI)I" } : Jvm.MethodName) prog_1_method_13_code (4 : Nat) (Option.some Jvm.ClassFile.FieldType.int)) ∈ cx_G := cx_t2 230 (by decide +kernel) rfl
theorem hw_471 : (Jvm.Cond.methodLink "NamelessBox" (152 : Nat) ({ cls := "NamelessBox$Text", name := "hasRoom", desc := "(I)Z" } : Jvm.MethodName)) ∈ cx_G := cx_t2 231 (by decide +kernel) rfl
theorem hw_472 : (Jvm.Cond.instanceMethod ({ cls := "NamelessBox$Text", name := "hasRoom", desc := "(I)Z" } : Jvm.MethodName)) ∈ cx_G := cx_t2 232 (by decide +kernel) rfl
theorem hw_473 : (Jvm.Cond.selects "NamelessBox$Text" ({ cls := "NamelessBox$Text", name := "hasRoom", desc := "(I)Z" } : Jvm.MethodName) ({ cls := "NamelessBox$Text", name := "hasRoom", desc := "(I)Z" } : Jvm.MethodName)) ∈ cx_G := cx_t2 233 (by decide +kernel) rfl
theorem hw_474 : (Jvm.Cond.code ({ cls := "NamelessBox$Text", name := "hasRoom", desc := "(I)Z" } : Jvm.MethodName) prog_8_method_2_code (2 : Nat) (Option.some Jvm.ClassFile.FieldType.boolean)) ∈ cx_G := cx_t2 234 (by decide +kernel) rfl
theorem hw_475 : (Jvm.Cond.methodLink "NamelessBox" (155 : Nat) ({ cls := "NamelessBox$Text", name := "append", desc := "(JI)I" } : Jvm.MethodName)) ∈ cx_G := cx_t2 235 (by decide +kernel) rfl
theorem hw_476 : (Jvm.Cond.instanceMethod ({ cls := "NamelessBox$Text", name := "append", desc := "(JI)I" } : Jvm.MethodName)) ∈ cx_G := cx_t2 236 (by decide +kernel) rfl
theorem hw_477 : (Jvm.Cond.selects "NamelessBox$Text" ({ cls := "NamelessBox$Text", name := "append", desc := "(JI)I" } : Jvm.MethodName) ({ cls := "NamelessBox$Text", name := "append", desc := "(JI)I" } : Jvm.MethodName)) ∈ cx_G := cx_t2 237 (by decide +kernel) rfl
theorem hw_478 : (Jvm.Cond.code ({ cls := "NamelessBox$Text", name := "append", desc := "(JI)I" } : Jvm.MethodName) prog_8_method_3_code (5 : Nat) (Option.some Jvm.ClassFile.FieldType.int)) ∈ cx_G := cx_t2 238 (by decide +kernel) rfl
theorem hw_479 : (Jvm.Cond.constantLong "NamelessBox$Text" (32 : Nat) (255 : Int64)) ∈ cx_G := cx_t2 239 (by decide +kernel) rfl
theorem hw_480 : (Jvm.Cond.methodLink "NamelessBoxLaw" (69 : Nat) ({ cls := "NamelessBox", name := "clear", desc := "()I" } : Jvm.MethodName)) ∈ cx_G := cx_t3 0 (by decide +kernel) rfl
theorem hw_481 : (Jvm.Cond.instanceMethod ({ cls := "NamelessBox", name := "clear", desc := "()I" } : Jvm.MethodName)) ∈ cx_G := cx_t3 1 (by decide +kernel) rfl
theorem hw_482 : (Jvm.Cond.selects "NamelessBox" ({ cls := "NamelessBox", name := "clear", desc := "()I" } : Jvm.MethodName) ({ cls := "NamelessBox", name := "clear", desc := "()I" } : Jvm.MethodName)) ∈ cx_G := cx_t3 2 (by decide +kernel) rfl
theorem hw_483 : (Jvm.Cond.code ({ cls := "NamelessBox", name := "clear", desc := "()I" } : Jvm.MethodName) prog_1_method_14_code (1 : Nat) (Option.some Jvm.ClassFile.FieldType.int)) ∈ cx_G := cx_t3 3 (by decide +kernel) rfl
theorem hw_484 : (Jvm.Cond.methodLink "NamelessBox" (159 : Nat) ({ cls := "NamelessBox$Text", name := "empty", desc := "()I" } : Jvm.MethodName)) ∈ cx_G := cx_t3 4 (by decide +kernel) rfl
theorem hw_485 : (Jvm.Cond.instanceMethod ({ cls := "NamelessBox$Text", name := "empty", desc := "()I" } : Jvm.MethodName)) ∈ cx_G := cx_t3 5 (by decide +kernel) rfl
theorem hw_486 : (Jvm.Cond.selects "NamelessBox$Text" ({ cls := "NamelessBox$Text", name := "empty", desc := "()I" } : Jvm.MethodName) ({ cls := "NamelessBox$Text", name := "empty", desc := "()I" } : Jvm.MethodName)) ∈ cx_G := cx_t3 6 (by decide +kernel) rfl
theorem hw_487 : (Jvm.Cond.code ({ cls := "NamelessBox$Text", name := "empty", desc := "()I" } : Jvm.MethodName) prog_8_method_4_code (2 : Nat) (Option.some Jvm.ClassFile.FieldType.int)) ∈ cx_G := cx_t3 7 (by decide +kernel) rfl
theorem hw_488 : (Jvm.Cond.methodLink "NamelessBoxLaw" (74 : Nat) ({ cls := "NamelessBox", name := "read", desc := "()I" } : Jvm.MethodName)) ∈ cx_G := cx_t3 8 (by decide +kernel) rfl
theorem hw_489 : (Jvm.Cond.instanceMethod ({ cls := "NamelessBox", name := "read", desc := "()I" } : Jvm.MethodName)) ∈ cx_G := cx_t3 9 (by decide +kernel) rfl
theorem hw_490 : (Jvm.Cond.selects "NamelessBox" ({ cls := "NamelessBox", name := "read", desc := "()I" } : Jvm.MethodName) ({ cls := "NamelessBox", name := "read", desc := "()I" } : Jvm.MethodName)) ∈ cx_G := cx_t3 10 (by decide +kernel) rfl
theorem hw_491 : (Jvm.Cond.code ({ cls := "NamelessBox", name := "read", desc := "()I" } : Jvm.MethodName) prog_1_method_15_code (3 : Nat) (Option.some Jvm.ClassFile.FieldType.int)) ∈ cx_G := cx_t3 11 (by decide +kernel) rfl
theorem hw_492 : (Jvm.Cond.methodLink "NamelessBox" (163 : Nat) ({ cls := "NamelessBox$Text", name := "findFault", desc := "()I" } : Jvm.MethodName)) ∈ cx_G := cx_t3 12 (by decide +kernel) rfl
theorem hw_493 : (Jvm.Cond.instanceMethod ({ cls := "NamelessBox$Text", name := "findFault", desc := "()I" } : Jvm.MethodName)) ∈ cx_G := cx_t3 13 (by decide +kernel) rfl
theorem hw_494 : (Jvm.Cond.selects "NamelessBox$Text" ({ cls := "NamelessBox$Text", name := "findFault", desc := "()I" } : Jvm.MethodName) ({ cls := "NamelessBox$Text", name := "findFault", desc := "()I" } : Jvm.MethodName)) ∈ cx_G := cx_t3 14 (by decide +kernel) rfl
theorem hw_495 : (Jvm.Cond.code ({ cls := "NamelessBox$Text", name := "findFault", desc := "()I" } : Jvm.MethodName) prog_8_method_5_code (3 : Nat) (Option.some Jvm.ClassFile.FieldType.int)) ∈ cx_G := cx_t3 15 (by decide +kernel) rfl
theorem hw_496 : (Jvm.Cond.methodLink "NamelessBox$Text" (34 : Nat) ({ cls := "NamelessBox$Text", name := "advance", desc := "()I" } : Jvm.MethodName)) ∈ cx_G := cx_t3 16 (by decide +kernel) rfl
theorem hw_498 : (Jvm.Cond.instanceMethod ({ cls := "NamelessBox$Text", name := "advance", desc := "()I" } : Jvm.MethodName)) ∈ cx_G := cx_t3 18 (by decide +kernel) rfl
theorem hw_499 : (Jvm.Cond.code ({ cls := "NamelessBox$Text", name := "advance", desc := "()I" } : Jvm.MethodName) prog_8_method_10_code (1 : Nat) (Option.some Jvm.ClassFile.FieldType.int)) ∈ cx_G := cx_t3 19 (by decide +kernel) rfl
theorem hw_500 : (Jvm.Cond.methodLink "NamelessBox$Text" (105 : Nat) ({ cls := "NamelessBox$Text", name := "isLetter", desc := "(C)Z" } : Jvm.MethodName)) ∈ cx_G := cx_t3 20 (by decide +kernel) rfl
theorem hw_501 : (Jvm.Cond.static ({ cls := "NamelessBox$Text", name := "isLetter", desc := "(C)Z" } : Jvm.MethodName)) ∈ cx_G := cx_t3 21 (by decide +kernel) rfl
theorem hw_502 : (Jvm.Cond.code ({ cls := "NamelessBox$Text", name := "isLetter", desc := "(C)Z" } : Jvm.MethodName) prog_8_method_11_code (1 : Nat) (Option.some Jvm.ClassFile.FieldType.boolean)) ∈ cx_G := cx_t3 22 (by decide +kernel) rfl
theorem hw_503 : (Jvm.Cond.methodLink "NamelessBox$Text" (109 : Nat) ({ cls := "NamelessBox$Text", name := "isFigure", desc := "(C)Z" } : Jvm.MethodName)) ∈ cx_G := cx_t3 23 (by decide +kernel) rfl
theorem hw_504 : (Jvm.Cond.static ({ cls := "NamelessBox$Text", name := "isFigure", desc := "(C)Z" } : Jvm.MethodName)) ∈ cx_G := cx_t3 24 (by decide +kernel) rfl
theorem hw_505 : (Jvm.Cond.code ({ cls := "NamelessBox$Text", name := "isFigure", desc := "(C)Z" } : Jvm.MethodName) prog_8_method_12_code (1 : Nat) (Option.some Jvm.ClassFile.FieldType.boolean)) ∈ cx_G := cx_t3 25 (by decide +kernel) rfl
theorem hw_506 : (Jvm.Cond.methodLink "NamelessBox$Text" (38 : Nat) ({ cls := "NamelessBox$Text", name := "takeItem", desc := "(I)Z" } : Jvm.MethodName)) ∈ cx_G := cx_t3 26 (by decide +kernel) rfl
theorem hw_508 : (Jvm.Cond.instanceMethod ({ cls := "NamelessBox$Text", name := "takeItem", desc := "(I)Z" } : Jvm.MethodName)) ∈ cx_G := cx_t3 28 (by decide +kernel) rfl
theorem hw_509 : (Jvm.Cond.code ({ cls := "NamelessBox$Text", name := "takeItem", desc := "(I)Z" } : Jvm.MethodName) prog_8_method_7_code (3 : Nat) (Option.some Jvm.ClassFile.FieldType.boolean)) ∈ cx_G := cx_t3 29 (by decide +kernel) rfl
theorem hw_510 : (Jvm.Cond.methodLink "NamelessBox$Text" (51 : Nat) ({ cls := "NamelessBox$Text", name := "itemOf", desc := "()I" } : Jvm.MethodName)) ∈ cx_G := cx_t3 30 (by decide +kernel) rfl
theorem hw_512 : (Jvm.Cond.instanceMethod ({ cls := "NamelessBox$Text", name := "itemOf", desc := "()I" } : Jvm.MethodName)) ∈ cx_G := cx_t3 32 (by decide +kernel) rfl
theorem hw_513 : (Jvm.Cond.code ({ cls := "NamelessBox$Text", name := "itemOf", desc := "()I" } : Jvm.MethodName) prog_8_method_13_code (2 : Nat) (Option.some Jvm.ClassFile.FieldType.int)) ∈ cx_G := cx_t3 33 (by decide +kernel) rfl
theorem hw_514 : (Jvm.Cond.methodLink "NamelessBox$Text" (112 : Nat) ({ cls := "NamelessBox$Text", name := "wordOf", desc := "(I)Ljava/lang/String;" } : Jvm.MethodName)) ∈ cx_G := cx_t3 34 (by decide +kernel) rfl
theorem hw_515 : (Jvm.Cond.static ({ cls := "NamelessBox$Text", name := "wordOf", desc := "(I)Ljava/lang/String;" } : Jvm.MethodName)) ∈ cx_G := cx_t3 35 (by decide +kernel) rfl
theorem hw_516 : (Jvm.Cond.code ({ cls := "NamelessBox$Text", name := "wordOf", desc := "(I)Ljava/lang/String;" } : Jvm.MethodName) prog_8_method_9_code (1 : Nat) (Option.some (Jvm.ClassFile.FieldType.object "java/lang/String"))) ∈ cx_G := cx_t3 36 (by decide +kernel) rfl
theorem hw_525 : (Jvm.Cond.methodLink "NamelessBox$Text" (116 : Nat) ({ cls := "NamelessBox$Text", name := "isWord", desc := "(Ljava/lang/String;)Z" } : Jvm.MethodName)) ∈ cx_G := cx_t3 45 (by decide +kernel) rfl
theorem hw_527 : (Jvm.Cond.instanceMethod ({ cls := "NamelessBox$Text", name := "isWord", desc := "(Ljava/lang/String;)Z" } : Jvm.MethodName)) ∈ cx_G := cx_t3 47 (by decide +kernel) rfl
theorem hw_528 : (Jvm.Cond.code ({ cls := "NamelessBox$Text", name := "isWord", desc := "(Ljava/lang/String;)Z" } : Jvm.MethodName) prog_8_method_14_code (3 : Nat) (Option.some Jvm.ClassFile.FieldType.boolean)) ∈ cx_G := cx_t3 48 (by decide +kernel) rfl
theorem hw_529 : (Jvm.Cond.methodLink "NamelessBox$Text" (120 : Nat) ({ cls := "java/lang/String", name := "length", desc := "()I" } : Jvm.MethodName)) ∈ cx_G := cx_t3 49 (by decide +kernel) rfl
theorem hw_530 : (Jvm.Cond.instanceMethod ({ cls := "java/lang/String", name := "length", desc := "()I" } : Jvm.MethodName)) ∈ cx_G := cx_t3 50 (by decide +kernel) rfl
theorem hw_531 : (Jvm.Cond.selects "java/lang/String" ({ cls := "java/lang/String", name := "length", desc := "()I" } : Jvm.MethodName) ({ cls := "java/lang/String", name := "length", desc := "()I" } : Jvm.MethodName)) ∈ cx_G := cx_t3 51 (by decide +kernel) rfl
theorem hw_532 : (Jvm.Cond.code ({ cls := "java/lang/String", name := "length", desc := "()I" } : Jvm.MethodName) prog_14_method_54_code (1 : Nat) (Option.some Jvm.ClassFile.FieldType.int)) ∈ cx_G := cx_t3 52 (by decide +kernel) rfl
theorem hw_533 : (Jvm.Cond.methodLink "java/lang/String" (335 : Nat) ({ cls := "java/lang/String", name := "coder", desc := "()B" } : Jvm.MethodName)) ∈ cx_G := cx_t3 53 (by decide +kernel) rfl
theorem hw_534 : (Jvm.Cond.instanceMethod ({ cls := "java/lang/String", name := "coder", desc := "()B" } : Jvm.MethodName)) ∈ cx_G := cx_t3 54 (by decide +kernel) rfl
theorem hw_535 : (Jvm.Cond.selects "java/lang/String" ({ cls := "java/lang/String", name := "coder", desc := "()B" } : Jvm.MethodName) ({ cls := "java/lang/String", name := "coder", desc := "()B" } : Jvm.MethodName)) ∈ cx_G := cx_t3 55 (by decide +kernel) rfl
theorem hw_536 : (Jvm.Cond.code ({ cls := "java/lang/String", name := "coder", desc := "()B" } : Jvm.MethodName) prog_14_method_152_code (1 : Nat) (Option.some Jvm.ClassFile.FieldType.byte)) ∈ cx_G := cx_t3 56 (by decide +kernel) rfl
theorem hw_537 : (Jvm.Cond.fieldLink "java/lang/String" (38 : Nat) "java/lang/String" "COMPACT_STRINGS" "Z") ∈ cx_G := cx_t3 57 (by decide +kernel) rfl
theorem hw_539 : (Jvm.Cond.methodLink "NamelessBox$Text" (124 : Nat) ({ cls := "java/lang/String", name := "charAt", desc := "(I)C" } : Jvm.MethodName)) ∈ cx_G := cx_t3 59 (by decide +kernel) rfl
theorem hw_540 : (Jvm.Cond.instanceMethod ({ cls := "java/lang/String", name := "charAt", desc := "(I)C" } : Jvm.MethodName)) ∈ cx_G := cx_t3 60 (by decide +kernel) rfl
theorem hw_541 : (Jvm.Cond.selects "java/lang/String" ({ cls := "java/lang/String", name := "charAt", desc := "(I)C" } : Jvm.MethodName) ({ cls := "java/lang/String", name := "charAt", desc := "(I)C" } : Jvm.MethodName)) ∈ cx_G := cx_t3 61 (by decide +kernel) rfl
theorem hw_542 : (Jvm.Cond.code ({ cls := "java/lang/String", name := "charAt", desc := "(I)C" } : Jvm.MethodName) prog_14_method_56_code (2 : Nat) (Option.some Jvm.ClassFile.FieldType.char)) ∈ cx_G := cx_t3 62 (by decide +kernel) rfl
theorem hw_543 : (Jvm.Cond.methodLink "java/lang/String" (492 : Nat) ({ cls := "java/lang/String", name := "isLatin1", desc := "()Z" } : Jvm.MethodName)) ∈ cx_G := cx_t3 63 (by decide +kernel) rfl
theorem hw_544 : (Jvm.Cond.instanceMethod ({ cls := "java/lang/String", name := "isLatin1", desc := "()Z" } : Jvm.MethodName)) ∈ cx_G := cx_t3 64 (by decide +kernel) rfl
theorem hw_545 : (Jvm.Cond.selects "java/lang/String" ({ cls := "java/lang/String", name := "isLatin1", desc := "()Z" } : Jvm.MethodName) ({ cls := "java/lang/String", name := "isLatin1", desc := "()Z" } : Jvm.MethodName)) ∈ cx_G := cx_t3 65 (by decide +kernel) rfl
theorem hw_546 : (Jvm.Cond.code ({ cls := "java/lang/String", name := "isLatin1", desc := "()Z" } : Jvm.MethodName) prog_14_method_154_code (1 : Nat) (Option.some Jvm.ClassFile.FieldType.boolean)) ∈ cx_G := cx_t3 66 (by decide +kernel) rfl
theorem hw_547 : (Jvm.Cond.methodLink "java/lang/String" (495 : Nat) ({ cls := "java/lang/StringLatin1", name := "charAt", desc := "([BI)C" } : Jvm.MethodName)) ∈ cx_G := cx_t3 67 (by decide +kernel) rfl
theorem hw_548 : (Jvm.Cond.static ({ cls := "java/lang/StringLatin1", name := "charAt", desc := "([BI)C" } : Jvm.MethodName)) ∈ cx_G := cx_t3 68 (by decide +kernel) rfl
theorem hw_549 : (Jvm.Cond.code ({ cls := "java/lang/StringLatin1", name := "charAt", desc := "([BI)C" } : Jvm.MethodName) prog_15_method_2_code (2 : Nat) (Option.some Jvm.ClassFile.FieldType.char)) ∈ cx_G := cx_t3 69 (by decide +kernel) rfl
theorem hw_550 : (Jvm.Cond.methodLink "java/lang/StringLatin1" (9 : Nat) ({ cls := "java/lang/String", name := "checkIndex", desc := "(II)V" } : Jvm.MethodName)) ∈ cx_G := cx_t3 70 (by decide +kernel) rfl
theorem hw_551 : (Jvm.Cond.static ({ cls := "java/lang/String", name := "checkIndex", desc := "(II)V" } : Jvm.MethodName)) ∈ cx_G := cx_t3 71 (by decide +kernel) rfl
theorem hw_552 : (Jvm.Cond.code ({ cls := "java/lang/String", name := "checkIndex", desc := "(II)V" } : Jvm.MethodName) prog_14_method_155_code (2 : Nat) (Option.none : Option Jvm.ClassFile.FieldType)) ∈ cx_G := cx_t3 72 (by decide +kernel) rfl
theorem hw_553 : (Jvm.Cond.fieldLink "java/lang/String" (1053 : Nat) "jdk/internal/util/Preconditions" "SIOOBE_FORMATTER" "Ljava/util/function/BiFunction;") ∈ cx_G := cx_t3 73 (by decide +kernel) rfl
theorem hw_555 : (Jvm.Cond.methodLink "java/lang/String" (1059 : Nat) ({ cls := "jdk/internal/util/Preconditions", name := "checkIndex", desc := "(IILjava/util/function/BiFunction;)I" } : Jvm.MethodName)) ∈ cx_G := cx_t3 75 (by decide +kernel) rfl
theorem hw_556 : (Jvm.Cond.static ({ cls := "jdk/internal/util/Preconditions", name := "checkIndex", desc := "(IILjava/util/function/BiFunction;)I" } : Jvm.MethodName)) ∈ cx_G := cx_t3 76 (by decide +kernel) rfl
theorem hw_557 : (Jvm.Cond.code ({ cls := "jdk/internal/util/Preconditions", name := "checkIndex", desc := "(IILjava/util/function/BiFunction;)I" } : Jvm.MethodName) prog_19_method_11_code (3 : Nat) (Option.some Jvm.ClassFile.FieldType.int)) ∈ cx_G := cx_t3 77 (by decide +kernel) rfl
theorem hw_558 : (Jvm.Cond.methodLink "java/lang/String" (498 : Nat) ({ cls := "java/lang/StringUTF16", name := "charAt", desc := "([BI)C" } : Jvm.MethodName)) ∈ cx_G := cx_t3 78 (by decide +kernel) rfl
theorem hw_559 : (Jvm.Cond.static ({ cls := "java/lang/StringUTF16", name := "charAt", desc := "([BI)C" } : Jvm.MethodName)) ∈ cx_G := cx_t3 79 (by decide +kernel) rfl
theorem hw_560 : (Jvm.Cond.code ({ cls := "java/lang/StringUTF16", name := "charAt", desc := "([BI)C" } : Jvm.MethodName) prog_16_method_83_code (2 : Nat) (Option.some Jvm.ClassFile.FieldType.char)) ∈ cx_G := cx_t3 80 (by decide +kernel) rfl
theorem hw_561 : (Jvm.Cond.methodLink "java/lang/StringUTF16" (67 : Nat) ({ cls := "java/lang/StringUTF16", name := "checkIndex", desc := "(I[B)V" } : Jvm.MethodName)) ∈ cx_G := cx_t3 81 (by decide +kernel) rfl
theorem hw_562 : (Jvm.Cond.static ({ cls := "java/lang/StringUTF16", name := "checkIndex", desc := "(I[B)V" } : Jvm.MethodName)) ∈ cx_G := cx_t3 82 (by decide +kernel) rfl
theorem hw_563 : (Jvm.Cond.code ({ cls := "java/lang/StringUTF16", name := "checkIndex", desc := "(I[B)V" } : Jvm.MethodName) prog_16_method_91_code (2 : Nat) (Option.none : Option Jvm.ClassFile.FieldType)) ∈ cx_G := cx_t3 83 (by decide +kernel) rfl
theorem hw_564 : (Jvm.Cond.methodLink "java/lang/StringUTF16" (48 : Nat) ({ cls := "java/lang/StringUTF16", name := "length", desc := "([B)I" } : Jvm.MethodName)) ∈ cx_G := cx_t3 84 (by decide +kernel) rfl
theorem hw_565 : (Jvm.Cond.static ({ cls := "java/lang/StringUTF16", name := "length", desc := "([B)I" } : Jvm.MethodName)) ∈ cx_G := cx_t3 85 (by decide +kernel) rfl
theorem hw_566 : (Jvm.Cond.code ({ cls := "java/lang/StringUTF16", name := "length", desc := "([B)I" } : Jvm.MethodName) prog_16_method_6_code (1 : Nat) (Option.some Jvm.ClassFile.FieldType.int)) ∈ cx_G := cx_t3 86 (by decide +kernel) rfl
theorem hw_567 : (Jvm.Cond.methodLink "java/lang/StringUTF16" (414 : Nat) ({ cls := "java/lang/String", name := "checkIndex", desc := "(II)V" } : Jvm.MethodName)) ∈ cx_G := cx_t3 87 (by decide +kernel) rfl
theorem hw_568 : (Jvm.Cond.methodLink "java/lang/StringUTF16" (71 : Nat) ({ cls := "java/lang/StringUTF16", name := "getChar", desc := "([BI)C" } : Jvm.MethodName)) ∈ cx_G := cx_t3 88 (by decide +kernel) rfl
theorem hw_569 : (Jvm.Cond.static ({ cls := "java/lang/StringUTF16", name := "getChar", desc := "([BI)C" } : Jvm.MethodName)) ∈ cx_G := cx_t3 89 (by decide +kernel) rfl
theorem hw_570 : (Jvm.Cond.code ({ cls := "java/lang/StringUTF16", name := "getChar", desc := "([BI)C" } : Jvm.MethodName) prog_16_method_5_code (2 : Nat) (Option.some Jvm.ClassFile.FieldType.char)) ∈ cx_G := cx_t3 90 (by decide +kernel) rfl
theorem hw_571 : (Jvm.Cond.fieldLink "java/lang/StringUTF16" (44 : Nat) "java/lang/StringUTF16" "$assertionsDisabled" "Z") ∈ cx_G := cx_t3 91 (by decide +kernel) rfl
theorem hw_573 : (Jvm.Cond.fieldLink "java/lang/StringUTF16" (59 : Nat) "java/lang/StringUTF16" "HI_BYTE_SHIFT" "I") ∈ cx_G := cx_t3 93 (by decide +kernel) rfl
theorem hw_575 : (Jvm.Cond.fieldLink "java/lang/StringUTF16" (63 : Nat) "java/lang/StringUTF16" "LO_BYTE_SHIFT" "I") ∈ cx_G := cx_t3 95 (by decide +kernel) rfl
theorem hw_577 : (Jvm.Cond.fieldLink "NamelessBox$Text" (54 : Nat) "NamelessBox$Text" "NUMBERS_OF" "[I") ∈ cx_G := cx_t3 97 (by decide +kernel) rfl
theorem hw_579 : (Jvm.Cond.methodLink "NamelessBox$Text" (57 : Nat) ({ cls := "NamelessBox$Text", name := "numberOf", desc := "()I" } : Jvm.MethodName)) ∈ cx_G := cx_t3 99 (by decide +kernel) rfl
theorem hw_581 : (Jvm.Cond.instanceMethod ({ cls := "NamelessBox$Text", name := "numberOf", desc := "()I" } : Jvm.MethodName)) ∈ cx_G := cx_t3 101 (by decide +kernel) rfl
theorem hw_582 : (Jvm.Cond.code ({ cls := "NamelessBox$Text", name := "numberOf", desc := "()I" } : Jvm.MethodName) prog_8_method_15_code (3 : Nat) (Option.some Jvm.ClassFile.FieldType.int)) ∈ cx_G := cx_t3 102 (by decide +kernel) rfl
theorem hw_583 : (Jvm.Cond.methodLink "NamelessBox" (166 : Nat) ({ cls := "NamelessBox$Text", name := "tell", desc := "(LNamelessBox$Box;)I" } : Jvm.MethodName)) ∈ cx_G := cx_t3 103 (by decide +kernel) rfl
theorem hw_584 : (Jvm.Cond.instanceMethod ({ cls := "NamelessBox$Text", name := "tell", desc := "(LNamelessBox$Box;)I" } : Jvm.MethodName)) ∈ cx_G := cx_t3 104 (by decide +kernel) rfl
theorem hw_585 : (Jvm.Cond.selects "NamelessBox$Text" ({ cls := "NamelessBox$Text", name := "tell", desc := "(LNamelessBox$Box;)I" } : Jvm.MethodName) ({ cls := "NamelessBox$Text", name := "tell", desc := "(LNamelessBox$Box;)I" } : Jvm.MethodName)) ∈ cx_G := cx_t3 105 (by decide +kernel) rfl
theorem hw_586 : (Jvm.Cond.code ({ cls := "NamelessBox$Text", name := "tell", desc := "(LNamelessBox$Box;)I" } : Jvm.MethodName) prog_8_method_6_code (5 : Nat) (Option.some Jvm.ClassFile.FieldType.int)) ∈ cx_G := cx_t3 106 (by decide +kernel) rfl
theorem hw_587 : (Jvm.Cond.methodLink "NamelessBox$Text" (42 : Nat) ({ cls := "NamelessBox$Box", name := "empty", desc := "()V" } : Jvm.MethodName)) ∈ cx_G := cx_t3 107 (by decide +kernel) rfl
theorem hw_588 : (Jvm.Cond.instanceMethod ({ cls := "NamelessBox$Box", name := "empty", desc := "()V" } : Jvm.MethodName)) ∈ cx_G := cx_t3 108 (by decide +kernel) rfl
theorem hw_589 : (Jvm.Cond.selects "NamelessBox$Box" ({ cls := "NamelessBox$Box", name := "empty", desc := "()V" } : Jvm.MethodName) ({ cls := "NamelessBox$Box", name := "empty", desc := "()V" } : Jvm.MethodName)) ∈ cx_G := cx_t3 109 (by decide +kernel) rfl
theorem hw_590 : (Jvm.Cond.code ({ cls := "NamelessBox$Box", name := "empty", desc := "()V" } : Jvm.MethodName) prog_3_method_2_code (1 : Nat) (Option.none : Option Jvm.ClassFile.FieldType)) ∈ cx_G := cx_t3 110 (by decide +kernel) rfl
theorem hw_591 : (Jvm.Cond.methodLink "NamelessBox$Text" (47 : Nat) ({ cls := "NamelessBox$Text", name := "tellItem", desc := "(LNamelessBox$Box;)I" } : Jvm.MethodName)) ∈ cx_G := cx_t3 111 (by decide +kernel) rfl
theorem hw_593 : (Jvm.Cond.instanceMethod ({ cls := "NamelessBox$Text", name := "tellItem", desc := "(LNamelessBox$Box;)I" } : Jvm.MethodName)) ∈ cx_G := cx_t3 113 (by decide +kernel) rfl
theorem hw_594 : (Jvm.Cond.code ({ cls := "NamelessBox$Text", name := "tellItem", desc := "(LNamelessBox$Box;)I" } : Jvm.MethodName) prog_8_method_8_code (3 : Nat) (Option.some Jvm.ClassFile.FieldType.int)) ∈ cx_G := cx_t3 114 (by decide +kernel) rfl
theorem hw_595 : (Jvm.Cond.methodLink "NamelessBox$Text" (60 : Nat) ({ cls := "NamelessBox$Box", name := "addPerson", desc := "(IIII)I" } : Jvm.MethodName)) ∈ cx_G := cx_t3 115 (by decide +kernel) rfl
theorem hw_596 : (Jvm.Cond.methodLink "NamelessBox$Text" (64 : Nat) ({ cls := "NamelessBox$Box", name := "setParent", desc := "(II)I" } : Jvm.MethodName)) ∈ cx_G := cx_t3 116 (by decide +kernel) rfl
theorem hw_597 : (Jvm.Cond.methodLink "NamelessBox$Text" (68 : Nat) ({ cls := "NamelessBox$Box", name := "setNear", desc := "(II)I" } : Jvm.MethodName)) ∈ cx_G := cx_t3 117 (by decide +kernel) rfl
theorem hw_598 : (Jvm.Cond.methodLink "NamelessBox$Text" (71 : Nat) ({ cls := "NamelessBox$Box", name := "addPicture", desc := "(II)I" } : Jvm.MethodName)) ∈ cx_G := cx_t3 118 (by decide +kernel) rfl
theorem hw_599 : (Jvm.Cond.methodLink "NamelessBox$Text" (74 : Nat) ({ cls := "NamelessBox$Box", name := "addHead", desc := "(IIIII)I" } : Jvm.MethodName)) ∈ cx_G := cx_t3 119 (by decide +kernel) rfl
theorem hw_600 : (Jvm.Cond.methodLink "NamelessBox$Text" (78 : Nat) ({ cls := "NamelessBox$Box", name := "addName", desc := "(IIII)I" } : Jvm.MethodName)) ∈ cx_G := cx_t3 120 (by decide +kernel) rfl
theorem hw_601 : (Jvm.Cond.methodLink "NamelessBox$Text" (81 : Nat) ({ cls := "NamelessBox$Box", name := "addJoin", desc := "(III)I" } : Jvm.MethodName)) ∈ cx_G := cx_t3 121 (by decide +kernel) rfl
theorem hw_602 : (Jvm.Cond.methodLink "NamelessBox$Text" (85 : Nat) ({ cls := "NamelessBox$Box", name := "setStrange", desc := "(I)I" } : Jvm.MethodName)) ∈ cx_G := cx_t3 122 (by decide +kernel) rfl
theorem hw_603 : (Jvm.Cond.methodLink "NamelessBox" (170 : Nat) ({ cls := "NamelessBox$Box", name := "take", desc := "(LNamelessBox$Box;)V" } : Jvm.MethodName)) ∈ cx_G := cx_t3 123 (by decide +kernel) rfl
theorem hw_604 : (Jvm.Cond.instanceMethod ({ cls := "NamelessBox$Box", name := "take", desc := "(LNamelessBox$Box;)V" } : Jvm.MethodName)) ∈ cx_G := cx_t3 124 (by decide +kernel) rfl
theorem hw_605 : (Jvm.Cond.selects "NamelessBox$Box" ({ cls := "NamelessBox$Box", name := "take", desc := "(LNamelessBox$Box;)V" } : Jvm.MethodName) ({ cls := "NamelessBox$Box", name := "take", desc := "(LNamelessBox$Box;)V" } : Jvm.MethodName)) ∈ cx_G := cx_t3 125 (by decide +kernel) rfl
theorem hw_606 : (Jvm.Cond.code ({ cls := "NamelessBox$Box", name := "take", desc := "(LNamelessBox$Box;)V" } : Jvm.MethodName) prog_3_method_3_code (2 : Nat) (Option.none : Option Jvm.ClassFile.FieldType)) ∈ cx_G := cx_t3 126 (by decide +kernel) rfl
theorem hw_607 : (Jvm.Cond.methodLink "NamelessBox$Box" (39 : Nat) ({ cls := "NamelessBox$Rows", name := "take", desc := "(LNamelessBox$Rows;)V" } : Jvm.MethodName)) ∈ cx_G := cx_t3 127 (by decide +kernel) rfl
theorem hw_608 : (Jvm.Cond.instanceMethod ({ cls := "NamelessBox$Rows", name := "take", desc := "(LNamelessBox$Rows;)V" } : Jvm.MethodName)) ∈ cx_G := cx_t3 128 (by decide +kernel) rfl
theorem hw_609 : (Jvm.Cond.selects "NamelessBox$Rows" ({ cls := "NamelessBox$Rows", name := "take", desc := "(LNamelessBox$Rows;)V" } : Jvm.MethodName) ({ cls := "NamelessBox$Rows", name := "take", desc := "(LNamelessBox$Rows;)V" } : Jvm.MethodName)) ∈ cx_G := cx_t3 129 (by decide +kernel) rfl
theorem hw_610 : (Jvm.Cond.code ({ cls := "NamelessBox$Rows", name := "take", desc := "(LNamelessBox$Rows;)V" } : Jvm.MethodName) prog_6_method_7_code (2 : Nat) (Option.none : Option Jvm.ClassFile.FieldType)) ∈ cx_G := cx_t3 130 (by decide +kernel) rfl
theorem hw_611 : (Jvm.Cond.methodLink "NamelessBox$Rows" (43 : Nat) ({ cls := "java/lang/Math", name := "min", desc := "(II)I" } : Jvm.MethodName)) ∈ cx_G := cx_t3 131 (by decide +kernel) rfl
theorem hw_612 : (Jvm.Cond.static ({ cls := "java/lang/Math", name := "min", desc := "(II)I" } : Jvm.MethodName)) ∈ cx_G := cx_t3 132 (by decide +kernel) rfl
theorem hw_613 : (Jvm.Cond.code ({ cls := "java/lang/Math", name := "min", desc := "(II)I" } : Jvm.MethodName) prog_13_method_69_code (2 : Nat) (Option.some Jvm.ClassFile.FieldType.int)) ∈ cx_G := cx_t3 133 (by decide +kernel) rfl
theorem hw_614 : (Jvm.Cond.methodLink "NamelessBox$Rows" (46 : Nat) ({ cls := "java/lang/System", name := "arraycopy", desc := "(Ljava/lang/Object;ILjava/lang/Object;II)V" } : Jvm.MethodName)) ∈ cx_G := cx_t3 134 (by decide +kernel) rfl
theorem hw_615 : (Jvm.Cond.static ({ cls := "java/lang/System", name := "arraycopy", desc := "(Ljava/lang/Object;ILjava/lang/Object;II)V" } : Jvm.MethodName)) ∈ cx_G := cx_t3 135 (by decide +kernel) rfl
theorem hw_616 : (Jvm.Cond.native ({ cls := "java/lang/System", name := "arraycopy", desc := "(Ljava/lang/Object;ILjava/lang/Object;II)V" } : Jvm.MethodName)) ∈ cx_G := cx_t3 136 (by decide +kernel) rfl
theorem hw_617 : (Jvm.Cond.arrayClass Jvm.ClassFile.FieldType.byte) ∈ cx_G := cx_t3 137 (by decide +kernel) rfl
theorem hw_618 : (Jvm.Cond.methodLink "NamelessBoxLaw" (78 : Nat) ({ cls := "NamelessBox", name := "who", desc := "(II)I" } : Jvm.MethodName)) ∈ cx_G := cx_t3 138 (by decide +kernel) rfl
theorem hw_619 : (Jvm.Cond.instanceMethod ({ cls := "NamelessBox", name := "who", desc := "(II)I" } : Jvm.MethodName)) ∈ cx_G := cx_t3 139 (by decide +kernel) rfl
theorem hw_620 : (Jvm.Cond.selects "NamelessBox" ({ cls := "NamelessBox", name := "who", desc := "(II)I" } : Jvm.MethodName) ({ cls := "NamelessBox", name := "who", desc := "(II)I" } : Jvm.MethodName)) ∈ cx_G := cx_t3 140 (by decide +kernel) rfl
theorem hw_621 : (Jvm.Cond.code ({ cls := "NamelessBox", name := "who", desc := "(II)I" } : Jvm.MethodName) prog_1_method_16_code (3 : Nat) (Option.some Jvm.ClassFile.FieldType.int)) ∈ cx_G := cx_t3 141 (by decide +kernel) rfl
theorem hw_622 : (Jvm.Cond.methodLink "NamelessBox" (174 : Nat) ({ cls := "NamelessBox", name := "anyWay", desc := "(I)Z" } : Jvm.MethodName)) ∈ cx_G := cx_t3 142 (by decide +kernel) rfl
theorem hw_624 : (Jvm.Cond.instanceMethod ({ cls := "NamelessBox", name := "anyWay", desc := "(I)Z" } : Jvm.MethodName)) ∈ cx_G := cx_t3 144 (by decide +kernel) rfl
theorem hw_625 : (Jvm.Cond.code ({ cls := "NamelessBox", name := "anyWay", desc := "(I)Z" } : Jvm.MethodName) prog_1_method_49_code (2 : Nat) (Option.some Jvm.ClassFile.FieldType.boolean)) ∈ cx_G := cx_t3 145 (by decide +kernel) rfl
theorem hw_626 : (Jvm.Cond.methodLink "NamelessBox" (205 : Nat) ({ cls := "NamelessBox$Ways", name := "lookAtAll", desc := "(I)V" } : Jvm.MethodName)) ∈ cx_G := cx_t3 146 (by decide +kernel) rfl
theorem hw_627 : (Jvm.Cond.instanceMethod ({ cls := "NamelessBox$Ways", name := "lookAtAll", desc := "(I)V" } : Jvm.MethodName)) ∈ cx_G := cx_t3 147 (by decide +kernel) rfl
theorem hw_628 : (Jvm.Cond.selects "NamelessBox$Ways" ({ cls := "NamelessBox$Ways", name := "lookAtAll", desc := "(I)V" } : Jvm.MethodName) ({ cls := "NamelessBox$Ways", name := "lookAtAll", desc := "(I)V" } : Jvm.MethodName)) ∈ cx_G := cx_t3 148 (by decide +kernel) rfl
theorem hw_629 : (Jvm.Cond.code ({ cls := "NamelessBox$Ways", name := "lookAtAll", desc := "(I)V" } : Jvm.MethodName) prog_9_method_2_code (3 : Nat) (Option.none : Option Jvm.ClassFile.FieldType)) ∈ cx_G := cx_t3 149 (by decide +kernel) rfl
theorem hw_630 : (Jvm.Cond.methodLink "NamelessBox$Ways" (93 : Nat) ({ cls := "NamelessBox$Rows", name := "at", desc := "(II)I" } : Jvm.MethodName)) ∈ cx_G := cx_t3 150 (by decide +kernel) rfl
theorem hw_631 : (Jvm.Cond.methodLink "NamelessBox$Ways" (97 : Nat) ({ cls := "java/lang/Math", name := "min", desc := "(II)I" } : Jvm.MethodName)) ∈ cx_G := cx_t3 151 (by decide +kernel) rfl
theorem hw_632 : (Jvm.Cond.methodLink "NamelessBox" (212 : Nat) ({ cls := "NamelessBox$Ways", name := "sumUp", desc := "()V" } : Jvm.MethodName)) ∈ cx_G := cx_t3 152 (by decide +kernel) rfl
theorem hw_633 : (Jvm.Cond.instanceMethod ({ cls := "NamelessBox$Ways", name := "sumUp", desc := "()V" } : Jvm.MethodName)) ∈ cx_G := cx_t3 153 (by decide +kernel) rfl
theorem hw_634 : (Jvm.Cond.selects "NamelessBox$Ways" ({ cls := "NamelessBox$Ways", name := "sumUp", desc := "()V" } : Jvm.MethodName) ({ cls := "NamelessBox$Ways", name := "sumUp", desc := "()V" } : Jvm.MethodName)) ∈ cx_G := cx_t3 154 (by decide +kernel) rfl
theorem hw_635 : (Jvm.Cond.code ({ cls := "NamelessBox$Ways", name := "sumUp", desc := "()V" } : Jvm.MethodName) prog_9_method_6_code (4 : Nat) (Option.none : Option Jvm.ClassFile.FieldType)) ∈ cx_G := cx_t3 155 (by decide +kernel) rfl
theorem hw_636 : (Jvm.Cond.methodLink "NamelessBox$Ways" (112 : Nat) ({ cls := "NamelessBox$Sums", name := "empty", desc := "(III)V" } : Jvm.MethodName)) ∈ cx_G := cx_t3 156 (by decide +kernel) rfl
theorem hw_637 : (Jvm.Cond.instanceMethod ({ cls := "NamelessBox$Sums", name := "empty", desc := "(III)V" } : Jvm.MethodName)) ∈ cx_G := cx_t3 157 (by decide +kernel) rfl
theorem hw_638 : (Jvm.Cond.selects "NamelessBox$Sums" ({ cls := "NamelessBox$Sums", name := "empty", desc := "(III)V" } : Jvm.MethodName) ({ cls := "NamelessBox$Sums", name := "empty", desc := "(III)V" } : Jvm.MethodName)) ∈ cx_G := cx_t3 158 (by decide +kernel) rfl
theorem hw_639 : (Jvm.Cond.code ({ cls := "NamelessBox$Sums", name := "empty", desc := "(III)V" } : Jvm.MethodName) prog_7_method_2_code (4 : Nat) (Option.none : Option Jvm.ClassFile.FieldType)) ∈ cx_G := cx_t3 159 (by decide +kernel) rfl
theorem hw_640 : (Jvm.Cond.methodLink "NamelessBox$Sums" (49 : Nat) ({ cls := "NamelessBox$Limbs", name := "zero", desc := "([JI)V" } : Jvm.MethodName)) ∈ cx_G := cx_t3 160 (by decide +kernel) rfl
theorem hw_641 : (Jvm.Cond.static ({ cls := "NamelessBox$Limbs", name := "zero", desc := "([JI)V" } : Jvm.MethodName)) ∈ cx_G := cx_t3 161 (by decide +kernel) rfl
theorem hw_642 : (Jvm.Cond.code ({ cls := "NamelessBox$Limbs", name := "zero", desc := "([JI)V" } : Jvm.MethodName) prog_5_method_2_code (3 : Nat) (Option.none : Option Jvm.ClassFile.FieldType)) ∈ cx_G := cx_t3 162 (by decide +kernel) rfl
theorem hw_643 : (Jvm.Cond.methodLink "NamelessBox$Sums" (53 : Nat) ({ cls := "java/util/Arrays", name := "fill", desc := "([JJ)V" } : Jvm.MethodName)) ∈ cx_G := cx_t3 163 (by decide +kernel) rfl
theorem hw_644 : (Jvm.Cond.methodLink "NamelessBox$Ways" (118 : Nat) ({ cls := "NamelessBox$Ways", name := "placeHeads", desc := "()V" } : Jvm.MethodName)) ∈ cx_G := cx_t3 164 (by decide +kernel) rfl
theorem hw_646 : (Jvm.Cond.instanceMethod ({ cls := "NamelessBox$Ways", name := "placeHeads", desc := "()V" } : Jvm.MethodName)) ∈ cx_G := cx_t3 166 (by decide +kernel) rfl
theorem hw_647 : (Jvm.Cond.code ({ cls := "NamelessBox$Ways", name := "placeHeads", desc := "()V" } : Jvm.MethodName) prog_9_method_7_code (3 : Nat) (Option.none : Option Jvm.ClassFile.FieldType)) ∈ cx_G := cx_t3 167 (by decide +kernel) rfl
theorem hw_648 : (Jvm.Cond.methodLink "NamelessBox$Ways" (145 : Nat) ({ cls := "java/util/Arrays", name := "fill", desc := "([II)V" } : Jvm.MethodName)) ∈ cx_G := cx_t3 168 (by decide +kernel) rfl
theorem hw_649 : (Jvm.Cond.static ({ cls := "java/util/Arrays", name := "fill", desc := "([II)V" } : Jvm.MethodName)) ∈ cx_G := cx_t3 169 (by decide +kernel) rfl
theorem hw_650 : (Jvm.Cond.code ({ cls := "java/util/Arrays", name := "fill", desc := "([II)V" } : Jvm.MethodName) prog_18_method_103_code (4 : Nat) (Option.none : Option Jvm.ClassFile.FieldType)) ∈ cx_G := cx_t3 170 (by decide +kernel) rfl
theorem hw_652 : (Jvm.Cond.static ({ cls := "NamelessBox", name := "whoAt", desc := "(II)I" } : Jvm.MethodName)) ∈ cx_G := cx_t3 172 (by decide +kernel) rfl
theorem hw_653 : (Jvm.Cond.code ({ cls := "NamelessBox", name := "whoAt", desc := "(II)I" } : Jvm.MethodName) prog_1_method_44_code (2 : Nat) (Option.some Jvm.ClassFile.FieldType.int)) ∈ cx_G := cx_t3 173 (by decide +kernel) rfl
theorem hw_654 : (Jvm.Cond.methodLink "NamelessBox$Ways" (124 : Nat) ({ cls := "NamelessBox$Ways", name := "planLikes", desc := "(II)V" } : Jvm.MethodName)) ∈ cx_G := cx_t3 174 (by decide +kernel) rfl
theorem hw_656 : (Jvm.Cond.instanceMethod ({ cls := "NamelessBox$Ways", name := "planLikes", desc := "(II)V" } : Jvm.MethodName)) ∈ cx_G := cx_t3 176 (by decide +kernel) rfl
theorem hw_657 : (Jvm.Cond.code ({ cls := "NamelessBox$Ways", name := "planLikes", desc := "(II)V" } : Jvm.MethodName) prog_9_method_8_code (9 : Nat) (Option.none : Option Jvm.ClassFile.FieldType)) ∈ cx_G := cx_t3 177 (by decide +kernel) rfl
theorem hw_658 : (Jvm.Cond.methodLink "NamelessBox$Ways" (148 : Nat) ({ cls := "NamelessBox$Box", name := "marksLike", desc := "(II)I" } : Jvm.MethodName)) ∈ cx_G := cx_t3 178 (by decide +kernel) rfl
theorem hw_659 : (Jvm.Cond.methodLink "NamelessBox$Ways" (151 : Nat) ({ cls := "NamelessBox$Box", name := "ageLike", desc := "(III)I" } : Jvm.MethodName)) ∈ cx_G := cx_t3 179 (by decide +kernel) rfl
theorem hw_660 : (Jvm.Cond.methodLink "NamelessBox$Ways" (128 : Nat) ({ cls := "NamelessBox$Ways", name := "planNamings", desc := "(II)V" } : Jvm.MethodName)) ∈ cx_G := cx_t3 180 (by decide +kernel) rfl
theorem hw_662 : (Jvm.Cond.instanceMethod ({ cls := "NamelessBox$Ways", name := "planNamings", desc := "(II)V" } : Jvm.MethodName)) ∈ cx_G := cx_t3 182 (by decide +kernel) rfl
theorem hw_663 : (Jvm.Cond.code ({ cls := "NamelessBox$Ways", name := "planNamings", desc := "(II)V" } : Jvm.MethodName) prog_9_method_9_code (5 : Nat) (Option.none : Option Jvm.ClassFile.FieldType)) ∈ cx_G := cx_t3 183 (by decide +kernel) rfl
theorem hw_664 : (Jvm.Cond.methodLink "NamelessBox$Ways" (158 : Nat) ({ cls := "NamelessBox$Box", name := "isSo", desc := "(II)Z" } : Jvm.MethodName)) ∈ cx_G := cx_t3 184 (by decide +kernel) rfl
theorem hw_665 : (Jvm.Cond.instanceMethod ({ cls := "NamelessBox$Box", name := "isSo", desc := "(II)Z" } : Jvm.MethodName)) ∈ cx_G := cx_t3 185 (by decide +kernel) rfl
theorem hw_666 : (Jvm.Cond.selects "NamelessBox$Box" ({ cls := "NamelessBox$Box", name := "isSo", desc := "(II)Z" } : Jvm.MethodName) ({ cls := "NamelessBox$Box", name := "isSo", desc := "(II)Z" } : Jvm.MethodName)) ∈ cx_G := cx_t3 186 (by decide +kernel) rfl
theorem hw_667 : (Jvm.Cond.code ({ cls := "NamelessBox$Box", name := "isSo", desc := "(II)Z" } : Jvm.MethodName) prog_3_method_17_code (3 : Nat) (Option.some Jvm.ClassFile.FieldType.boolean)) ∈ cx_G := cx_t3 187 (by decide +kernel) rfl
theorem hw_668 : (Jvm.Cond.methodLink "NamelessBox$Ways" (162 : Nat) ({ cls := "NamelessBox$Box", name := "truthOf", desc := "(I)I" } : Jvm.MethodName)) ∈ cx_G := cx_t3 188 (by decide +kernel) rfl
theorem hw_669 : (Jvm.Cond.methodLink "NamelessBox$Ways" (131 : Nat) ({ cls := "NamelessBox$Limbs", name := "set", desc := "([JII)V" } : Jvm.MethodName)) ∈ cx_G := cx_t3 189 (by decide +kernel) rfl
theorem hw_670 : (Jvm.Cond.static ({ cls := "NamelessBox$Limbs", name := "set", desc := "([JII)V" } : Jvm.MethodName)) ∈ cx_G := cx_t3 190 (by decide +kernel) rfl
theorem hw_671 : (Jvm.Cond.code ({ cls := "NamelessBox$Limbs", name := "set", desc := "([JII)V" } : Jvm.MethodName) prog_5_method_3_code (3 : Nat) (Option.none : Option Jvm.ClassFile.FieldType)) ∈ cx_G := cx_t3 191 (by decide +kernel) rfl
theorem hw_672 : (Jvm.Cond.methodLink "NamelessBox$Limbs" (9 : Nat) ({ cls := "NamelessBox$Limbs", name := "zero", desc := "([JI)V" } : Jvm.MethodName)) ∈ cx_G := cx_t3 192 (by decide +kernel) rfl
theorem hw_673 : (Jvm.Cond.methodLink "NamelessBox$Ways" (135 : Nat) ({ cls := "NamelessBox$Ways", name := "takeEmptyPictures", desc := "()V" } : Jvm.MethodName)) ∈ cx_G := cx_t3 193 (by decide +kernel) rfl
theorem hw_675 : (Jvm.Cond.instanceMethod ({ cls := "NamelessBox$Ways", name := "takeEmptyPictures", desc := "()V" } : Jvm.MethodName)) ∈ cx_G := cx_t3 195 (by decide +kernel) rfl
theorem hw_676 : (Jvm.Cond.code ({ cls := "NamelessBox$Ways", name := "takeEmptyPictures", desc := "()V" } : Jvm.MethodName) prog_9_method_10_code (2 : Nat) (Option.none : Option Jvm.ClassFile.FieldType)) ∈ cx_G := cx_t3 196 (by decide +kernel) rfl
theorem hw_677 : (Jvm.Cond.methodLink "NamelessBox$Ways" (166 : Nat) ({ cls := "NamelessBox$Limbs", name := "multiply", desc := "([JI[JIJ)V" } : Jvm.MethodName)) ∈ cx_G := cx_t3 197 (by decide +kernel) rfl
theorem hw_678 : (Jvm.Cond.static ({ cls := "NamelessBox$Limbs", name := "multiply", desc := "([JI[JIJ)V" } : Jvm.MethodName)) ∈ cx_G := cx_t3 198 (by decide +kernel) rfl
theorem hw_679 : (Jvm.Cond.code ({ cls := "NamelessBox$Limbs", name := "multiply", desc := "([JI[JIJ)V" } : Jvm.MethodName) prog_5_method_9_code (17 : Nat) (Option.none : Option Jvm.ClassFile.FieldType)) ∈ cx_G := cx_t3 199 (by decide +kernel) rfl
theorem hw_680 : (Jvm.Cond.constantLong "NamelessBox$Limbs" (19 : Nat) (1073741823 : Int64)) ∈ cx_G := cx_t3 200 (by decide +kernel) rfl
theorem hw_681 : (Jvm.Cond.methodLink "NamelessBox$Ways" (170 : Nat) ({ cls := "NamelessBox$Ways", name := "yearsInOrder", desc := "()J" } : Jvm.MethodName)) ∈ cx_G := cx_t3 201 (by decide +kernel) rfl
theorem hw_683 : (Jvm.Cond.instanceMethod ({ cls := "NamelessBox$Ways", name := "yearsInOrder", desc := "()J" } : Jvm.MethodName)) ∈ cx_G := cx_t3 203 (by decide +kernel) rfl
theorem hw_684 : (Jvm.Cond.code ({ cls := "NamelessBox$Ways", name := "yearsInOrder", desc := "()J" } : Jvm.MethodName) prog_9_method_20_code (8 : Nat) (Option.some Jvm.ClassFile.FieldType.long)) ∈ cx_G := cx_t3 204 (by decide +kernel) rfl
theorem hw_685 : (Jvm.Cond.methodLink "NamelessBox$Ways" (138 : Nat) ({ cls := "NamelessBox$Ways", name := "descend", desc := "(II)V" } : Jvm.MethodName)) ∈ cx_G := cx_t3 205 (by decide +kernel) rfl
theorem hw_687 : (Jvm.Cond.instanceMethod ({ cls := "NamelessBox$Ways", name := "descend", desc := "(II)V" } : Jvm.MethodName)) ∈ cx_G := cx_t3 207 (by decide +kernel) rfl
theorem hw_688 : (Jvm.Cond.code ({ cls := "NamelessBox$Ways", name := "descend", desc := "(II)V" } : Jvm.MethodName) prog_9_method_11_code (5 : Nat) (Option.none : Option Jvm.ClassFile.FieldType)) ∈ cx_G := cx_t3 208 (by decide +kernel) rfl
theorem hw_689 : (Jvm.Cond.methodLink "NamelessBox$Ways" (174 : Nat) ({ cls := "NamelessBox$Limbs", name := "copy", desc := "([JI[JI)V" } : Jvm.MethodName)) ∈ cx_G := cx_t3 209 (by decide +kernel) rfl
theorem hw_690 : (Jvm.Cond.static ({ cls := "NamelessBox$Limbs", name := "copy", desc := "([JI[JI)V" } : Jvm.MethodName)) ∈ cx_G := cx_t3 210 (by decide +kernel) rfl
theorem hw_691 : (Jvm.Cond.code ({ cls := "NamelessBox$Limbs", name := "copy", desc := "([JI[JI)V" } : Jvm.MethodName) prog_5_method_4_code (4 : Nat) (Option.none : Option Jvm.ClassFile.FieldType)) ∈ cx_G := cx_t3 211 (by decide +kernel) rfl
theorem hw_692 : (Jvm.Cond.methodLink "NamelessBox$Limbs" (13 : Nat) ({ cls := "java/lang/System", name := "arraycopy", desc := "(Ljava/lang/Object;ILjava/lang/Object;II)V" } : Jvm.MethodName)) ∈ cx_G := cx_t3 212 (by decide +kernel) rfl
theorem hw_693 : (Jvm.Cond.methodLink "NamelessBox$Ways" (178 : Nat) ({ cls := "NamelessBox$Sums", name := "addWay", desc := "([II[JI)V" } : Jvm.MethodName)) ∈ cx_G := cx_t3 213 (by decide +kernel) rfl
theorem hw_694 : (Jvm.Cond.instanceMethod ({ cls := "NamelessBox$Sums", name := "addWay", desc := "([II[JI)V" } : Jvm.MethodName)) ∈ cx_G := cx_t3 214 (by decide +kernel) rfl
theorem hw_695 : (Jvm.Cond.selects "NamelessBox$Sums" ({ cls := "NamelessBox$Sums", name := "addWay", desc := "([II[JI)V" } : Jvm.MethodName) ({ cls := "NamelessBox$Sums", name := "addWay", desc := "([II[JI)V" } : Jvm.MethodName)) ∈ cx_G := cx_t3 215 (by decide +kernel) rfl
theorem hw_696 : (Jvm.Cond.code ({ cls := "NamelessBox$Sums", name := "addWay", desc := "([II[JI)V" } : Jvm.MethodName) prog_7_method_3_code (5 : Nat) (Option.none : Option Jvm.ClassFile.FieldType)) ∈ cx_G := cx_t3 216 (by decide +kernel) rfl
theorem hw_697 : (Jvm.Cond.methodLink "NamelessBox$Sums" (59 : Nat) ({ cls := "NamelessBox$Limbs", name := "add", desc := "([JI[JI)V" } : Jvm.MethodName)) ∈ cx_G := cx_t3 217 (by decide +kernel) rfl
theorem hw_698 : (Jvm.Cond.static ({ cls := "NamelessBox$Limbs", name := "add", desc := "([JI[JI)V" } : Jvm.MethodName)) ∈ cx_G := cx_t3 218 (by decide +kernel) rfl
theorem hw_699 : (Jvm.Cond.code ({ cls := "NamelessBox$Limbs", name := "add", desc := "([JI[JI)V" } : Jvm.MethodName) prog_5_method_6_code (6 : Nat) (Option.none : Option Jvm.ClassFile.FieldType)) ∈ cx_G := cx_t3 219 (by decide +kernel) rfl
theorem hw_700 : (Jvm.Cond.methodLink "NamelessBox$Sums" (63 : Nat) ({ cls := "NamelessBox$Limbs", name := "compare", desc := "([JI[JI)I" } : Jvm.MethodName)) ∈ cx_G := cx_t3 220 (by decide +kernel) rfl
theorem hw_701 : (Jvm.Cond.static ({ cls := "NamelessBox$Limbs", name := "compare", desc := "([JI[JI)I" } : Jvm.MethodName)) ∈ cx_G := cx_t3 221 (by decide +kernel) rfl
theorem hw_702 : (Jvm.Cond.code ({ cls := "NamelessBox$Limbs", name := "compare", desc := "([JI[JI)I" } : Jvm.MethodName) prog_5_method_10_code (6 : Nat) (Option.some Jvm.ClassFile.FieldType.int)) ∈ cx_G := cx_t3 222 (by decide +kernel) rfl
theorem hw_703 : (Jvm.Cond.methodLink "NamelessBox$Limbs" (24 : Nat) ({ cls := "java/lang/Long", name := "compare", desc := "(JJ)I" } : Jvm.MethodName)) ∈ cx_G := cx_t3 223 (by decide +kernel) rfl
theorem hw_704 : (Jvm.Cond.static ({ cls := "java/lang/Long", name := "compare", desc := "(JJ)I" } : Jvm.MethodName)) ∈ cx_G := cx_t3 224 (by decide +kernel) rfl
theorem hw_705 : (Jvm.Cond.code ({ cls := "java/lang/Long", name := "compare", desc := "(JJ)I" } : Jvm.MethodName) prog_12_method_42_code (4 : Nat) (Option.some Jvm.ClassFile.FieldType.int)) ∈ cx_G := cx_t3 225 (by decide +kernel) rfl
theorem hw_706 : (Jvm.Cond.methodLink "NamelessBox$Sums" (67 : Nat) ({ cls := "NamelessBox$Limbs", name := "copy", desc := "([JI[JI)V" } : Jvm.MethodName)) ∈ cx_G := cx_t3 226 (by decide +kernel) rfl
theorem hw_707 : (Jvm.Cond.methodLink "NamelessBox$Sums" (70 : Nat) ({ cls := "java/lang/System", name := "arraycopy", desc := "(Ljava/lang/Object;ILjava/lang/Object;II)V" } : Jvm.MethodName)) ∈ cx_G := cx_t3 227 (by decide +kernel) rfl
theorem hw_708 : (Jvm.Cond.methodLink "NamelessBox$Ways" (182 : Nat) ({ cls := "NamelessBox$Limbs", name := "zero", desc := "([JI)V" } : Jvm.MethodName)) ∈ cx_G := cx_t3 228 (by decide +kernel) rfl
theorem hw_709 : (Jvm.Cond.methodLink "NamelessBox$Ways" (185 : Nat) ({ cls := "NamelessBox$Ways", name := "goesOn", desc := "(II)Z" } : Jvm.MethodName)) ∈ cx_G := cx_t3 229 (by decide +kernel) rfl
theorem hw_711 : (Jvm.Cond.instanceMethod ({ cls := "NamelessBox$Ways", name := "goesOn", desc := "(II)Z" } : Jvm.MethodName)) ∈ cx_G := cx_t3 231 (by decide +kernel) rfl
theorem hw_712 : (Jvm.Cond.code ({ cls := "NamelessBox$Ways", name := "goesOn", desc := "(II)Z" } : Jvm.MethodName) prog_9_method_13_code (7 : Nat) (Option.some Jvm.ClassFile.FieldType.boolean)) ∈ cx_G := cx_t3 232 (by decide +kernel) rfl
theorem hw_713 : (Jvm.Cond.methodLink "NamelessBox$Ways" (205 : Nat) ({ cls := "NamelessBox$Ways", name := "isThereAlready", desc := "(II)Z" } : Jvm.MethodName)) ∈ cx_G := cx_t3 233 (by decide +kernel) rfl
theorem hw_715 : (Jvm.Cond.instanceMethod ({ cls := "NamelessBox$Ways", name := "isThereAlready", desc := "(II)Z" } : Jvm.MethodName)) ∈ cx_G := cx_t3 235 (by decide +kernel) rfl
theorem hw_716 : (Jvm.Cond.code ({ cls := "NamelessBox$Ways", name := "isThereAlready", desc := "(II)Z" } : Jvm.MethodName) prog_9_method_14_code (5 : Nat) (Option.some Jvm.ClassFile.FieldType.boolean)) ∈ cx_G := cx_t3 236 (by decide +kernel) rfl
theorem hw_717 : (Jvm.Cond.methodLink "NamelessBox$Ways" (208 : Nat) ({ cls := "NamelessBox$Ways", name := "joinings", desc := "(II)I" } : Jvm.MethodName)) ∈ cx_G := cx_t3 237 (by decide +kernel) rfl
theorem hw_719 : (Jvm.Cond.instanceMethod ({ cls := "NamelessBox$Ways", name := "joinings", desc := "(II)I" } : Jvm.MethodName)) ∈ cx_G := cx_t3 239 (by decide +kernel) rfl
theorem hw_720 : (Jvm.Cond.code ({ cls := "NamelessBox$Ways", name := "joinings", desc := "(II)I" } : Jvm.MethodName) prog_9_method_15_code (9 : Nat) (Option.some Jvm.ClassFile.FieldType.int)) ∈ cx_G := cx_t4 0 (by decide +kernel) rfl
theorem hw_721 : (Jvm.Cond.methodLink "NamelessBox$Ways" (220 : Nat) ({ cls := "java/lang/Math", name := "max", desc := "(II)I" } : Jvm.MethodName)) ∈ cx_G := cx_t4 1 (by decide +kernel) rfl
theorem hw_722 : (Jvm.Cond.methodLink "NamelessBox$Ways" (211 : Nat) ({ cls := "NamelessBox$Ways", name := "takings", desc := "(II)J" } : Jvm.MethodName)) ∈ cx_G := cx_t4 2 (by decide +kernel) rfl
theorem hw_724 : (Jvm.Cond.instanceMethod ({ cls := "NamelessBox$Ways", name := "takings", desc := "(II)J" } : Jvm.MethodName)) ∈ cx_G := cx_t4 4 (by decide +kernel) rfl
theorem hw_725 : (Jvm.Cond.code ({ cls := "NamelessBox$Ways", name := "takings", desc := "(II)J" } : Jvm.MethodName) prog_9_method_16_code (5 : Nat) (Option.some Jvm.ClassFile.FieldType.long)) ∈ cx_G := cx_t4 5 (by decide +kernel) rfl
theorem hw_726 : (Jvm.Cond.methodLink "NamelessBox$Ways" (223 : Nat) ({ cls := "NamelessBox$Ways", name := "sumYears", desc := "(II)J" } : Jvm.MethodName)) ∈ cx_G := cx_t4 6 (by decide +kernel) rfl
theorem hw_728 : (Jvm.Cond.instanceMethod ({ cls := "NamelessBox$Ways", name := "sumYears", desc := "(II)J" } : Jvm.MethodName)) ∈ cx_G := cx_t4 8 (by decide +kernel) rfl
theorem hw_729 : (Jvm.Cond.code ({ cls := "NamelessBox$Ways", name := "sumYears", desc := "(II)J" } : Jvm.MethodName) prog_9_method_19_code (9 : Nat) (Option.some Jvm.ClassFile.FieldType.long)) ∈ cx_G := cx_t4 9 (by decide +kernel) rfl
theorem hw_730 : (Jvm.Cond.methodLink "NamelessBox$Ways" (226 : Nat) ({ cls := "NamelessBox$Ways", name := "multiplyYears", desc := "(II)Z" } : Jvm.MethodName)) ∈ cx_G := cx_t4 10 (by decide +kernel) rfl
theorem hw_732 : (Jvm.Cond.instanceMethod ({ cls := "NamelessBox$Ways", name := "multiplyYears", desc := "(II)Z" } : Jvm.MethodName)) ∈ cx_G := cx_t4 12 (by decide +kernel) rfl
theorem hw_733 : (Jvm.Cond.code ({ cls := "NamelessBox$Ways", name := "multiplyYears", desc := "(II)Z" } : Jvm.MethodName) prog_9_method_18_code (10 : Nat) (Option.some Jvm.ClassFile.FieldType.boolean)) ∈ cx_G := cx_t4 13 (by decide +kernel) rfl
theorem hw_734 : (Jvm.Cond.methodLink "NamelessBox$Ways" (229 : Nat) ({ cls := "NamelessBox$Ways", name := "areBothTold", desc := "(I)Z" } : Jvm.MethodName)) ∈ cx_G := cx_t4 14 (by decide +kernel) rfl
theorem hw_736 : (Jvm.Cond.instanceMethod ({ cls := "NamelessBox$Ways", name := "areBothTold", desc := "(I)Z" } : Jvm.MethodName)) ∈ cx_G := cx_t4 16 (by decide +kernel) rfl
theorem hw_737 : (Jvm.Cond.code ({ cls := "NamelessBox$Ways", name := "areBothTold", desc := "(I)Z" } : Jvm.MethodName) prog_9_method_17_code (2 : Nat) (Option.some Jvm.ClassFile.FieldType.boolean)) ∈ cx_G := cx_t4 17 (by decide +kernel) rfl
theorem hw_738 : (Jvm.Cond.constantLong "NamelessBox$Ways" (215 : Nat) (8589934592 : Int64)) ∈ cx_G := cx_t4 18 (by decide +kernel) rfl
theorem hw_739 : (Jvm.Cond.methodLink "NamelessBox$Ways" (188 : Nat) ({ cls := "NamelessBox$Ways", name := "gather", desc := "(II)V" } : Jvm.MethodName)) ∈ cx_G := cx_t4 19 (by decide +kernel) rfl
theorem hw_741 : (Jvm.Cond.instanceMethod ({ cls := "NamelessBox$Ways", name := "gather", desc := "(II)V" } : Jvm.MethodName)) ∈ cx_G := cx_t4 21 (by decide +kernel) rfl
theorem hw_742 : (Jvm.Cond.code ({ cls := "NamelessBox$Ways", name := "gather", desc := "(II)V" } : Jvm.MethodName) prog_9_method_12_code (4 : Nat) (Option.none : Option Jvm.ClassFile.FieldType)) ∈ cx_G := cx_t4 22 (by decide +kernel) rfl
theorem hw_743 : (Jvm.Cond.methodLink "NamelessBox$Ways" (195 : Nat) ({ cls := "NamelessBox$Limbs", name := "add", desc := "([JI[JI)V" } : Jvm.MethodName)) ∈ cx_G := cx_t4 23 (by decide +kernel) rfl
theorem hw_744 : (Jvm.Cond.methodLink "NamelessBox$Ways" (201 : Nat) ({ cls := "NamelessBox$Sums", name := "addPair", desc := "(IIII[JI)V" } : Jvm.MethodName)) ∈ cx_G := cx_t4 24 (by decide +kernel) rfl
theorem hw_745 : (Jvm.Cond.instanceMethod ({ cls := "NamelessBox$Sums", name := "addPair", desc := "(IIII[JI)V" } : Jvm.MethodName)) ∈ cx_G := cx_t4 25 (by decide +kernel) rfl
theorem hw_746 : (Jvm.Cond.selects "NamelessBox$Sums" ({ cls := "NamelessBox$Sums", name := "addPair", desc := "(IIII[JI)V" } : Jvm.MethodName) ({ cls := "NamelessBox$Sums", name := "addPair", desc := "(IIII[JI)V" } : Jvm.MethodName)) ∈ cx_G := cx_t4 26 (by decide +kernel) rfl
theorem hw_747 : (Jvm.Cond.code ({ cls := "NamelessBox$Sums", name := "addPair", desc := "(IIII[JI)V" } : Jvm.MethodName) prog_7_method_4_code (8 : Nat) (Option.none : Option Jvm.ClassFile.FieldType)) ∈ cx_G := cx_t4 27 (by decide +kernel) rfl
theorem hw_748 : (Jvm.Cond.methodLink "NamelessBox$Sums" (76 : Nat) ({ cls := "NamelessBox$Sums", name := "pairAt", desc := "(IIII)I" } : Jvm.MethodName)) ∈ cx_G := cx_t4 28 (by decide +kernel) rfl
theorem hw_749 : (Jvm.Cond.static ({ cls := "NamelessBox$Sums", name := "pairAt", desc := "(IIII)I" } : Jvm.MethodName)) ∈ cx_G := cx_t4 29 (by decide +kernel) rfl
theorem hw_750 : (Jvm.Cond.code ({ cls := "NamelessBox$Sums", name := "pairAt", desc := "(IIII)I" } : Jvm.MethodName) prog_7_method_5_code (4 : Nat) (Option.some Jvm.ClassFile.FieldType.int)) ∈ cx_G := cx_t4 30 (by decide +kernel) rfl
theorem hw_751 : (Jvm.Cond.methodLink "NamelessBox$Ways" (191 : Nat) ({ cls := "NamelessBox$Limbs", name := "isZero", desc := "([JI)Z" } : Jvm.MethodName)) ∈ cx_G := cx_t4 31 (by decide +kernel) rfl
theorem hw_752 : (Jvm.Cond.static ({ cls := "NamelessBox$Limbs", name := "isZero", desc := "([JI)Z" } : Jvm.MethodName)) ∈ cx_G := cx_t4 32 (by decide +kernel) rfl
theorem hw_753 : (Jvm.Cond.code ({ cls := "NamelessBox$Limbs", name := "isZero", desc := "([JI)Z" } : Jvm.MethodName) prog_5_method_5_code (3 : Nat) (Option.some Jvm.ClassFile.FieldType.boolean)) ∈ cx_G := cx_t4 33 (by decide +kernel) rfl
theorem hw_754 : (Jvm.Cond.methodLink "NamelessBox$Ways" (141 : Nat) ({ cls := "NamelessBox$Sums", name := "finish", desc := "([JI)V" } : Jvm.MethodName)) ∈ cx_G := cx_t4 34 (by decide +kernel) rfl
theorem hw_755 : (Jvm.Cond.instanceMethod ({ cls := "NamelessBox$Sums", name := "finish", desc := "([JI)V" } : Jvm.MethodName)) ∈ cx_G := cx_t4 35 (by decide +kernel) rfl
theorem hw_756 : (Jvm.Cond.selects "NamelessBox$Sums" ({ cls := "NamelessBox$Sums", name := "finish", desc := "([JI)V" } : Jvm.MethodName) ({ cls := "NamelessBox$Sums", name := "finish", desc := "([JI)V" } : Jvm.MethodName)) ∈ cx_G := cx_t4 36 (by decide +kernel) rfl
theorem hw_757 : (Jvm.Cond.code ({ cls := "NamelessBox$Sums", name := "finish", desc := "([JI)V" } : Jvm.MethodName) prog_7_method_6_code (4 : Nat) (Option.none : Option Jvm.ClassFile.FieldType)) ∈ cx_G := cx_t4 37 (by decide +kernel) rfl
theorem hw_758 : (Jvm.Cond.methodLink "NamelessBox$Sums" (80 : Nat) ({ cls := "NamelessBox$Limbs", name := "carry", desc := "([JI)V" } : Jvm.MethodName)) ∈ cx_G := cx_t4 38 (by decide +kernel) rfl
theorem hw_759 : (Jvm.Cond.static ({ cls := "NamelessBox$Limbs", name := "carry", desc := "([JI)V" } : Jvm.MethodName)) ∈ cx_G := cx_t4 39 (by decide +kernel) rfl
theorem hw_760 : (Jvm.Cond.code ({ cls := "NamelessBox$Limbs", name := "carry", desc := "([JI)V" } : Jvm.MethodName) prog_5_method_7_code (5 : Nat) (Option.none : Option Jvm.ClassFile.FieldType)) ∈ cx_G := cx_t4 40 (by decide +kernel) rfl
theorem hw_761 : (Jvm.Cond.methodLink "NamelessBox" (215 : Nat) ({ cls := "NamelessBox$Sums", name := "isNothing", desc := "()Z" } : Jvm.MethodName)) ∈ cx_G := cx_t4 41 (by decide +kernel) rfl
theorem hw_762 : (Jvm.Cond.instanceMethod ({ cls := "NamelessBox$Sums", name := "isNothing", desc := "()Z" } : Jvm.MethodName)) ∈ cx_G := cx_t4 42 (by decide +kernel) rfl
theorem hw_763 : (Jvm.Cond.selects "NamelessBox$Sums" ({ cls := "NamelessBox$Sums", name := "isNothing", desc := "()Z" } : Jvm.MethodName) ({ cls := "NamelessBox$Sums", name := "isNothing", desc := "()Z" } : Jvm.MethodName)) ∈ cx_G := cx_t4 43 (by decide +kernel) rfl
theorem hw_764 : (Jvm.Cond.code ({ cls := "NamelessBox$Sums", name := "isNothing", desc := "()Z" } : Jvm.MethodName) prog_7_method_7_code (1 : Nat) (Option.some Jvm.ClassFile.FieldType.boolean)) ∈ cx_G := cx_t4 44 (by decide +kernel) rfl
theorem hw_765 : (Jvm.Cond.methodLink "NamelessBox$Sums" (83 : Nat) ({ cls := "NamelessBox$Limbs", name := "isZero", desc := "([JI)Z" } : Jvm.MethodName)) ∈ cx_G := cx_t4 45 (by decide +kernel) rfl
theorem hw_766 : (Jvm.Cond.methodLink "NamelessBox" (181 : Nat) ({ cls := "NamelessBox", name := "share", desc := "([JI)I" } : Jvm.MethodName)) ∈ cx_G := cx_t4 46 (by decide +kernel) rfl
theorem hw_768 : (Jvm.Cond.instanceMethod ({ cls := "NamelessBox", name := "share", desc := "([JI)I" } : Jvm.MethodName)) ∈ cx_G := cx_t4 48 (by decide +kernel) rfl
theorem hw_769 : (Jvm.Cond.code ({ cls := "NamelessBox", name := "share", desc := "([JI)I" } : Jvm.MethodName) prog_1_method_50_code (3 : Nat) (Option.some Jvm.ClassFile.FieldType.int)) ∈ cx_G := cx_t4 49 (by decide +kernel) rfl
theorem hw_770 : (Jvm.Cond.methodLink "NamelessBox" (273 : Nat) ({ cls := "NamelessBox$Fraction", name := "set", desc := "([JI[JI)V" } : Jvm.MethodName)) ∈ cx_G := cx_t4 50 (by decide +kernel) rfl
theorem hw_771 : (Jvm.Cond.instanceMethod ({ cls := "NamelessBox$Fraction", name := "set", desc := "([JI[JI)V" } : Jvm.MethodName)) ∈ cx_G := cx_t4 51 (by decide +kernel) rfl
theorem hw_772 : (Jvm.Cond.selects "NamelessBox$Fraction" ({ cls := "NamelessBox$Fraction", name := "set", desc := "([JI[JI)V" } : Jvm.MethodName) ({ cls := "NamelessBox$Fraction", name := "set", desc := "([JI[JI)V" } : Jvm.MethodName)) ∈ cx_G := cx_t4 52 (by decide +kernel) rfl
theorem hw_773 : (Jvm.Cond.code ({ cls := "NamelessBox$Fraction", name := "set", desc := "([JI[JI)V" } : Jvm.MethodName) prog_4_method_4_code (5 : Nat) (Option.none : Option Jvm.ClassFile.FieldType)) ∈ cx_G := cx_t4 53 (by decide +kernel) rfl
theorem hw_774 : (Jvm.Cond.methodLink "NamelessBox$Fraction" (24 : Nat) ({ cls := "NamelessBox$Limbs", name := "isZero", desc := "([JI)Z" } : Jvm.MethodName)) ∈ cx_G := cx_t4 54 (by decide +kernel) rfl
theorem hw_775 : (Jvm.Cond.methodLink "NamelessBox$Fraction" (36 : Nat) ({ cls := "NamelessBox$Limbs", name := "zero", desc := "([JI)V" } : Jvm.MethodName)) ∈ cx_G := cx_t4 55 (by decide +kernel) rfl
theorem hw_776 : (Jvm.Cond.methodLink "NamelessBox$Fraction" (32 : Nat) ({ cls := "NamelessBox$Limbs", name := "set", desc := "([JII)V" } : Jvm.MethodName)) ∈ cx_G := cx_t4 56 (by decide +kernel) rfl
theorem hw_777 : (Jvm.Cond.methodLink "NamelessBox$Fraction" (28 : Nat) ({ cls := "NamelessBox$Limbs", name := "copy", desc := "([JI[JI)V" } : Jvm.MethodName)) ∈ cx_G := cx_t4 57 (by decide +kernel) rfl
theorem hw_778 : (Jvm.Cond.methodLink "NamelessBox$Fraction" (40 : Nat) ({ cls := "NamelessBox$Fraction", name := "halveBoth", desc := "()V" } : Jvm.MethodName)) ∈ cx_G := cx_t4 58 (by decide +kernel) rfl
theorem hw_780 : (Jvm.Cond.instanceMethod ({ cls := "NamelessBox$Fraction", name := "halveBoth", desc := "()V" } : Jvm.MethodName)) ∈ cx_G := cx_t4 60 (by decide +kernel) rfl
theorem hw_781 : (Jvm.Cond.code ({ cls := "NamelessBox$Fraction", name := "halveBoth", desc := "()V" } : Jvm.MethodName) prog_4_method_5_code (2 : Nat) (Option.none : Option Jvm.ClassFile.FieldType)) ∈ cx_G := cx_t4 61 (by decide +kernel) rfl
theorem hw_782 : (Jvm.Cond.methodLink "NamelessBox$Fraction" (49 : Nat) ({ cls := "NamelessBox$Limbs", name := "isEven", desc := "([JI)Z" } : Jvm.MethodName)) ∈ cx_G := cx_t4 62 (by decide +kernel) rfl
theorem hw_783 : (Jvm.Cond.static ({ cls := "NamelessBox$Limbs", name := "isEven", desc := "([JI)Z" } : Jvm.MethodName)) ∈ cx_G := cx_t4 63 (by decide +kernel) rfl
theorem hw_784 : (Jvm.Cond.code ({ cls := "NamelessBox$Limbs", name := "isEven", desc := "([JI)Z" } : Jvm.MethodName) prog_5_method_11_code (2 : Nat) (Option.some Jvm.ClassFile.FieldType.boolean)) ∈ cx_G := cx_t4 64 (by decide +kernel) rfl
theorem hw_785 : (Jvm.Cond.methodLink "NamelessBox$Fraction" (52 : Nat) ({ cls := "NamelessBox$Limbs", name := "halve", desc := "([JI)V" } : Jvm.MethodName)) ∈ cx_G := cx_t4 65 (by decide +kernel) rfl
theorem hw_786 : (Jvm.Cond.static ({ cls := "NamelessBox$Limbs", name := "halve", desc := "([JI)V" } : Jvm.MethodName)) ∈ cx_G := cx_t4 66 (by decide +kernel) rfl
theorem hw_787 : (Jvm.Cond.code ({ cls := "NamelessBox$Limbs", name := "halve", desc := "([JI)V" } : Jvm.MethodName) prog_5_method_12_code (7 : Nat) (Option.none : Option Jvm.ClassFile.FieldType)) ∈ cx_G := cx_t4 67 (by decide +kernel) rfl
theorem hw_788 : (Jvm.Cond.methodLink "NamelessBox$Fraction" (43 : Nat) ({ cls := "NamelessBox$Fraction", name := "findOddDivisor", desc := "()V" } : Jvm.MethodName)) ∈ cx_G := cx_t4 68 (by decide +kernel) rfl
theorem hw_790 : (Jvm.Cond.instanceMethod ({ cls := "NamelessBox$Fraction", name := "findOddDivisor", desc := "()V" } : Jvm.MethodName)) ∈ cx_G := cx_t4 70 (by decide +kernel) rfl
theorem hw_791 : (Jvm.Cond.code ({ cls := "NamelessBox$Fraction", name := "findOddDivisor", desc := "()V" } : Jvm.MethodName) prog_4_method_6_code (2 : Nat) (Option.none : Option Jvm.ClassFile.FieldType)) ∈ cx_G := cx_t4 71 (by decide +kernel) rfl
theorem hw_792 : (Jvm.Cond.methodLink "NamelessBox$Fraction" (55 : Nat) ({ cls := "NamelessBox$Limbs", name := "compare", desc := "([JI[JI)I" } : Jvm.MethodName)) ∈ cx_G := cx_t4 72 (by decide +kernel) rfl
theorem hw_793 : (Jvm.Cond.methodLink "NamelessBox$Fraction" (59 : Nat) ({ cls := "NamelessBox$Limbs", name := "subtract", desc := "([JI[JI)V" } : Jvm.MethodName)) ∈ cx_G := cx_t4 73 (by decide +kernel) rfl
theorem hw_794 : (Jvm.Cond.static ({ cls := "NamelessBox$Limbs", name := "subtract", desc := "([JI[JI)V" } : Jvm.MethodName)) ∈ cx_G := cx_t4 74 (by decide +kernel) rfl
theorem hw_795 : (Jvm.Cond.code ({ cls := "NamelessBox$Limbs", name := "subtract", desc := "([JI[JI)V" } : Jvm.MethodName) prog_5_method_8_code (5 : Nat) (Option.none : Option Jvm.ClassFile.FieldType)) ∈ cx_G := cx_t4 75 (by decide +kernel) rfl
theorem hw_796 : (Jvm.Cond.methodLink "NamelessBox$Limbs" (21 : Nat) ({ cls := "NamelessBox$Limbs", name := "carry", desc := "([JI)V" } : Jvm.MethodName)) ∈ cx_G := cx_t4 76 (by decide +kernel) rfl
theorem hw_797 : (Jvm.Cond.methodLink "NamelessBox$Fraction" (46 : Nat) ({ cls := "NamelessBox$Limbs", name := "divide", desc := "([JI[JI)V" } : Jvm.MethodName)) ∈ cx_G := cx_t4 77 (by decide +kernel) rfl
theorem hw_798 : (Jvm.Cond.static ({ cls := "NamelessBox$Limbs", name := "divide", desc := "([JI[JI)V" } : Jvm.MethodName)) ∈ cx_G := cx_t4 78 (by decide +kernel) rfl
theorem hw_799 : (Jvm.Cond.code ({ cls := "NamelessBox$Limbs", name := "divide", desc := "([JI[JI)V" } : Jvm.MethodName) prog_5_method_13_code (12 : Nat) (Option.none : Option Jvm.ClassFile.FieldType)) ∈ cx_G := cx_t4 79 (by decide +kernel) rfl
theorem hw_800 : (Jvm.Cond.methodLink "NamelessBox$Limbs" (30 : Nat) ({ cls := "NamelessBox$Limbs", name := "inverseOf", desc := "(J)J" } : Jvm.MethodName)) ∈ cx_G := cx_t4 80 (by decide +kernel) rfl
theorem hw_801 : (Jvm.Cond.static ({ cls := "NamelessBox$Limbs", name := "inverseOf", desc := "(J)J" } : Jvm.MethodName)) ∈ cx_G := cx_t4 81 (by decide +kernel) rfl
theorem hw_802 : (Jvm.Cond.code ({ cls := "NamelessBox$Limbs", name := "inverseOf", desc := "(J)J" } : Jvm.MethodName) prog_5_method_14_code (5 : Nat) (Option.some Jvm.ClassFile.FieldType.long)) ∈ cx_G := cx_t4 82 (by decide +kernel) rfl
theorem hw_803 : (Jvm.Cond.constantLong "NamelessBox$Limbs" (34 : Nat) (2 : Int64)) ∈ cx_G := cx_t4 83 (by decide +kernel) rfl
theorem hw_804 : (Jvm.Cond.methodLink "NamelessBoxLaw" (82 : Nat) ({ cls := "NamelessBox", name := "named", desc := "(I)I" } : Jvm.MethodName)) ∈ cx_G := cx_t4 84 (by decide +kernel) rfl
theorem hw_805 : (Jvm.Cond.instanceMethod ({ cls := "NamelessBox", name := "named", desc := "(I)I" } : Jvm.MethodName)) ∈ cx_G := cx_t4 85 (by decide +kernel) rfl
theorem hw_806 : (Jvm.Cond.selects "NamelessBox" ({ cls := "NamelessBox", name := "named", desc := "(I)I" } : Jvm.MethodName) ({ cls := "NamelessBox", name := "named", desc := "(I)I" } : Jvm.MethodName)) ∈ cx_G := cx_t4 86 (by decide +kernel) rfl
theorem hw_807 : (Jvm.Cond.code ({ cls := "NamelessBox", name := "named", desc := "(I)I" } : Jvm.MethodName) prog_1_method_17_code (3 : Nat) (Option.some Jvm.ClassFile.FieldType.int)) ∈ cx_G := cx_t4 87 (by decide +kernel) rfl
theorem hw_808 : (Jvm.Cond.methodLink "NamelessBox" (185 : Nat) ({ cls := "NamelessBox$Sums", name := "likeliest", desc := "(I)I" } : Jvm.MethodName)) ∈ cx_G := cx_t4 88 (by decide +kernel) rfl
theorem hw_809 : (Jvm.Cond.instanceMethod ({ cls := "NamelessBox$Sums", name := "likeliest", desc := "(I)I" } : Jvm.MethodName)) ∈ cx_G := cx_t4 89 (by decide +kernel) rfl
theorem hw_810 : (Jvm.Cond.selects "NamelessBox$Sums" ({ cls := "NamelessBox$Sums", name := "likeliest", desc := "(I)I" } : Jvm.MethodName) ({ cls := "NamelessBox$Sums", name := "likeliest", desc := "(I)I" } : Jvm.MethodName)) ∈ cx_G := cx_t4 90 (by decide +kernel) rfl
theorem hw_811 : (Jvm.Cond.code ({ cls := "NamelessBox$Sums", name := "likeliest", desc := "(I)I" } : Jvm.MethodName) prog_7_method_12_code (5 : Nat) (Option.some Jvm.ClassFile.FieldType.int)) ∈ cx_G := cx_t4 91 (by decide +kernel) rfl
theorem hw_813 : (Jvm.Cond.methodLink "NamelessBoxLaw" (86 : Nat) ({ cls := "NamelessBox", name := "best", desc := "(I)I" } : Jvm.MethodName)) ∈ cx_G := cx_t4 93 (by decide +kernel) rfl
theorem hw_814 : (Jvm.Cond.instanceMethod ({ cls := "NamelessBox", name := "best", desc := "(I)I" } : Jvm.MethodName)) ∈ cx_G := cx_t4 94 (by decide +kernel) rfl
theorem hw_815 : (Jvm.Cond.selects "NamelessBox" ({ cls := "NamelessBox", name := "best", desc := "(I)I" } : Jvm.MethodName) ({ cls := "NamelessBox", name := "best", desc := "(I)I" } : Jvm.MethodName)) ∈ cx_G := cx_t4 95 (by decide +kernel) rfl
theorem hw_816 : (Jvm.Cond.code ({ cls := "NamelessBox", name := "best", desc := "(I)I" } : Jvm.MethodName) prog_1_method_18_code (2 : Nat) (Option.some Jvm.ClassFile.FieldType.int)) ∈ cx_G := cx_t4 96 (by decide +kernel) rfl
theorem hw_817 : (Jvm.Cond.methodLink "NamelessBoxLaw" (90 : Nat) ({ cls := "NamelessBox", name := "all", desc := "()I" } : Jvm.MethodName)) ∈ cx_G := cx_t4 97 (by decide +kernel) rfl
theorem hw_818 : (Jvm.Cond.instanceMethod ({ cls := "NamelessBox", name := "all", desc := "()I" } : Jvm.MethodName)) ∈ cx_G := cx_t4 98 (by decide +kernel) rfl
theorem hw_819 : (Jvm.Cond.selects "NamelessBox" ({ cls := "NamelessBox", name := "all", desc := "()I" } : Jvm.MethodName) ({ cls := "NamelessBox", name := "all", desc := "()I" } : Jvm.MethodName)) ∈ cx_G := cx_t4 99 (by decide +kernel) rfl
theorem hw_820 : (Jvm.Cond.code ({ cls := "NamelessBox", name := "all", desc := "()I" } : Jvm.MethodName) prog_1_method_19_code (1 : Nat) (Option.some Jvm.ClassFile.FieldType.int)) ∈ cx_G := cx_t4 100 (by decide +kernel) rfl
theorem hw_821 : (Jvm.Cond.methodLink "NamelessBox" (194 : Nat) ({ cls := "NamelessBox$Fraction", name := "setWhole", desc := "([JI)V" } : Jvm.MethodName)) ∈ cx_G := cx_t4 101 (by decide +kernel) rfl
theorem hw_822 : (Jvm.Cond.instanceMethod ({ cls := "NamelessBox$Fraction", name := "setWhole", desc := "([JI)V" } : Jvm.MethodName)) ∈ cx_G := cx_t4 102 (by decide +kernel) rfl
theorem hw_823 : (Jvm.Cond.selects "NamelessBox$Fraction" ({ cls := "NamelessBox$Fraction", name := "setWhole", desc := "([JI)V" } : Jvm.MethodName) ({ cls := "NamelessBox$Fraction", name := "setWhole", desc := "([JI)V" } : Jvm.MethodName)) ∈ cx_G := cx_t4 103 (by decide +kernel) rfl
theorem hw_824 : (Jvm.Cond.code ({ cls := "NamelessBox$Fraction", name := "setWhole", desc := "([JI)V" } : Jvm.MethodName) prog_4_method_3_code (3 : Nat) (Option.none : Option Jvm.ClassFile.FieldType)) ∈ cx_G := cx_t4 104 (by decide +kernel) rfl
theorem hw_825 : (Jvm.Cond.methodLink "NamelessBoxLaw" (94 : Nat) ({ cls := "NamelessBox", name := "sure", desc := "(I)I" } : Jvm.MethodName)) ∈ cx_G := cx_t4 105 (by decide +kernel) rfl
theorem hw_826 : (Jvm.Cond.instanceMethod ({ cls := "NamelessBox", name := "sure", desc := "(I)I" } : Jvm.MethodName)) ∈ cx_G := cx_t4 106 (by decide +kernel) rfl
theorem hw_827 : (Jvm.Cond.selects "NamelessBox" ({ cls := "NamelessBox", name := "sure", desc := "(I)I" } : Jvm.MethodName) ({ cls := "NamelessBox", name := "sure", desc := "(I)I" } : Jvm.MethodName)) ∈ cx_G := cx_t4 107 (by decide +kernel) rfl
theorem hw_828 : (Jvm.Cond.code ({ cls := "NamelessBox", name := "sure", desc := "(I)I" } : Jvm.MethodName) prog_1_method_20_code (4 : Nat) (Option.some Jvm.ClassFile.FieldType.int)) ∈ cx_G := cx_t4 108 (by decide +kernel) rfl
theorem hw_829 : (Jvm.Cond.methodLink "NamelessBox" (201 : Nat) ({ cls := "NamelessBox$Sums", name := "isSure", desc := "(II)Z" } : Jvm.MethodName)) ∈ cx_G := cx_t4 109 (by decide +kernel) rfl
theorem hw_830 : (Jvm.Cond.instanceMethod ({ cls := "NamelessBox$Sums", name := "isSure", desc := "(II)Z" } : Jvm.MethodName)) ∈ cx_G := cx_t4 110 (by decide +kernel) rfl
theorem hw_831 : (Jvm.Cond.selects "NamelessBox$Sums" ({ cls := "NamelessBox$Sums", name := "isSure", desc := "(II)Z" } : Jvm.MethodName) ({ cls := "NamelessBox$Sums", name := "isSure", desc := "(II)Z" } : Jvm.MethodName)) ∈ cx_G := cx_t4 111 (by decide +kernel) rfl
theorem hw_832 : (Jvm.Cond.code ({ cls := "NamelessBox$Sums", name := "isSure", desc := "(II)Z" } : Jvm.MethodName) prog_7_method_14_code (3 : Nat) (Option.some Jvm.ClassFile.FieldType.boolean)) ∈ cx_G := cx_t4 112 (by decide +kernel) rfl
theorem hw_833 : (Jvm.Cond.methodLink "NamelessBox$Sums" (95 : Nat) ({ cls := "NamelessBox$Sums", name := "likeliest", desc := "(I)I" } : Jvm.MethodName)) ∈ cx_G := cx_t4 113 (by decide +kernel) rfl
theorem hw_834 : (Jvm.Cond.constantLong "NamelessBox$Sums" (99 : Nat) (100 : Int64)) ∈ cx_G := cx_t4 114 (by decide +kernel) rfl
theorem hw_835 : (Jvm.Cond.methodLink "NamelessBox$Sums" (101 : Nat) ({ cls := "NamelessBox$Limbs", name := "multiply", desc := "([JI[JIJ)V" } : Jvm.MethodName)) ∈ cx_G := cx_t4 115 (by decide +kernel) rfl
theorem hw_836 : (Jvm.Cond.methodLink "NamelessBoxLaw" (98 : Nat) ({ cls := "NamelessBox", name := "falls", desc := "(II)I" } : Jvm.MethodName)) ∈ cx_G := cx_t4 116 (by decide +kernel) rfl
theorem hw_837 : (Jvm.Cond.instanceMethod ({ cls := "NamelessBox", name := "falls", desc := "(II)I" } : Jvm.MethodName)) ∈ cx_G := cx_t4 117 (by decide +kernel) rfl
theorem hw_838 : (Jvm.Cond.selects "NamelessBox" ({ cls := "NamelessBox", name := "falls", desc := "(II)I" } : Jvm.MethodName) ({ cls := "NamelessBox", name := "falls", desc := "(II)I" } : Jvm.MethodName)) ∈ cx_G := cx_t4 118 (by decide +kernel) rfl
theorem hw_839 : (Jvm.Cond.code ({ cls := "NamelessBox", name := "falls", desc := "(II)I" } : Jvm.MethodName) prog_1_method_21_code (5 : Nat) (Option.some Jvm.ClassFile.FieldType.int)) ∈ cx_G := cx_t4 119 (by decide +kernel) rfl
theorem hw_840 : (Jvm.Cond.methodLink "NamelessBox" (209 : Nat) ({ cls := "NamelessBox$Ways", name := "leaveOut", desc := "(I)V" } : Jvm.MethodName)) ∈ cx_G := cx_t4 120 (by decide +kernel) rfl
theorem hw_841 : (Jvm.Cond.instanceMethod ({ cls := "NamelessBox$Ways", name := "leaveOut", desc := "(I)V" } : Jvm.MethodName)) ∈ cx_G := cx_t4 121 (by decide +kernel) rfl
theorem hw_842 : (Jvm.Cond.selects "NamelessBox$Ways" ({ cls := "NamelessBox$Ways", name := "leaveOut", desc := "(I)V" } : Jvm.MethodName) ({ cls := "NamelessBox$Ways", name := "leaveOut", desc := "(I)V" } : Jvm.MethodName)) ∈ cx_G := cx_t4 122 (by decide +kernel) rfl
theorem hw_843 : (Jvm.Cond.code ({ cls := "NamelessBox$Ways", name := "leaveOut", desc := "(I)V" } : Jvm.MethodName) prog_9_method_3_code (2 : Nat) (Option.none : Option Jvm.ClassFile.FieldType)) ∈ cx_G := cx_t4 123 (by decide +kernel) rfl
theorem hw_844 : (Jvm.Cond.methodLink "NamelessBox" (219 : Nat) ({ cls := "NamelessBox", name := "staysSure", desc := "(II)Z" } : Jvm.MethodName)) ∈ cx_G := cx_t4 124 (by decide +kernel) rfl
theorem hw_846 : (Jvm.Cond.instanceMethod ({ cls := "NamelessBox", name := "staysSure", desc := "(II)Z" } : Jvm.MethodName)) ∈ cx_G := cx_t4 126 (by decide +kernel) rfl
theorem hw_847 : (Jvm.Cond.code ({ cls := "NamelessBox", name := "staysSure", desc := "(II)Z" } : Jvm.MethodName) prog_1_method_52_code (3 : Nat) (Option.some Jvm.ClassFile.FieldType.boolean)) ∈ cx_G := cx_t4 127 (by decide +kernel) rfl
theorem hw_848 : (Jvm.Cond.methodLink "NamelessBoxLaw" (102 : Nat) ({ cls := "NamelessBox", name := "same", desc := "(II)I" } : Jvm.MethodName)) ∈ cx_G := cx_t4 128 (by decide +kernel) rfl
theorem hw_849 : (Jvm.Cond.instanceMethod ({ cls := "NamelessBox", name := "same", desc := "(II)I" } : Jvm.MethodName)) ∈ cx_G := cx_t4 129 (by decide +kernel) rfl
theorem hw_850 : (Jvm.Cond.selects "NamelessBox" ({ cls := "NamelessBox", name := "same", desc := "(II)I" } : Jvm.MethodName) ({ cls := "NamelessBox", name := "same", desc := "(II)I" } : Jvm.MethodName)) ∈ cx_G := cx_t4 130 (by decide +kernel) rfl
theorem hw_851 : (Jvm.Cond.code ({ cls := "NamelessBox", name := "same", desc := "(II)I" } : Jvm.MethodName) prog_1_method_22_code (4 : Nat) (Option.some Jvm.ClassFile.FieldType.int)) ∈ cx_G := cx_t4 131 (by decide +kernel) rfl
theorem hw_852 : (Jvm.Cond.methodLink "NamelessBox" (222 : Nat) ({ cls := "NamelessBox$Sums", name := "startAnswer", desc := "()V" } : Jvm.MethodName)) ∈ cx_G := cx_t4 132 (by decide +kernel) rfl
theorem hw_853 : (Jvm.Cond.instanceMethod ({ cls := "NamelessBox$Sums", name := "startAnswer", desc := "()V" } : Jvm.MethodName)) ∈ cx_G := cx_t4 133 (by decide +kernel) rfl
theorem hw_854 : (Jvm.Cond.selects "NamelessBox$Sums" ({ cls := "NamelessBox$Sums", name := "startAnswer", desc := "()V" } : Jvm.MethodName) ({ cls := "NamelessBox$Sums", name := "startAnswer", desc := "()V" } : Jvm.MethodName)) ∈ cx_G := cx_t4 134 (by decide +kernel) rfl
theorem hw_855 : (Jvm.Cond.code ({ cls := "NamelessBox$Sums", name := "startAnswer", desc := "()V" } : Jvm.MethodName) prog_7_method_8_code (1 : Nat) (Option.none : Option Jvm.ClassFile.FieldType)) ∈ cx_G := cx_t4 135 (by decide +kernel) rfl
theorem hw_856 : (Jvm.Cond.methodLink "NamelessBox" (225 : Nat) ({ cls := "NamelessBox$Sums", name := "addJoint", desc := "(IIII)V" } : Jvm.MethodName)) ∈ cx_G := cx_t4 136 (by decide +kernel) rfl
theorem hw_857 : (Jvm.Cond.instanceMethod ({ cls := "NamelessBox$Sums", name := "addJoint", desc := "(IIII)V" } : Jvm.MethodName)) ∈ cx_G := cx_t4 137 (by decide +kernel) rfl
theorem hw_858 : (Jvm.Cond.selects "NamelessBox$Sums" ({ cls := "NamelessBox$Sums", name := "addJoint", desc := "(IIII)V" } : Jvm.MethodName) ({ cls := "NamelessBox$Sums", name := "addJoint", desc := "(IIII)V" } : Jvm.MethodName)) ∈ cx_G := cx_t4 138 (by decide +kernel) rfl
theorem hw_859 : (Jvm.Cond.code ({ cls := "NamelessBox$Sums", name := "addJoint", desc := "(IIII)V" } : Jvm.MethodName) prog_7_method_9_code (5 : Nat) (Option.none : Option Jvm.ClassFile.FieldType)) ∈ cx_G := cx_t4 139 (by decide +kernel) rfl
theorem hw_860 : (Jvm.Cond.methodLink "NamelessBox$Sums" (87 : Nat) ({ cls := "NamelessBox$Sums", name := "putJoint", desc := "([JIIIII)V" } : Jvm.MethodName)) ∈ cx_G := cx_t4 140 (by decide +kernel) rfl
theorem hw_861 : (Jvm.Cond.instanceMethod ({ cls := "NamelessBox$Sums", name := "putJoint", desc := "([JIIIII)V" } : Jvm.MethodName)) ∈ cx_G := cx_t4 141 (by decide +kernel) rfl
theorem hw_862 : (Jvm.Cond.selects "NamelessBox$Sums" ({ cls := "NamelessBox$Sums", name := "putJoint", desc := "([JIIIII)V" } : Jvm.MethodName) ({ cls := "NamelessBox$Sums", name := "putJoint", desc := "([JIIIII)V" } : Jvm.MethodName)) ∈ cx_G := cx_t4 142 (by decide +kernel) rfl
theorem hw_863 : (Jvm.Cond.code ({ cls := "NamelessBox$Sums", name := "putJoint", desc := "([JIIIII)V" } : Jvm.MethodName) prog_7_method_10_code (8 : Nat) (Option.none : Option Jvm.ClassFile.FieldType)) ∈ cx_G := cx_t4 143 (by decide +kernel) rfl
theorem hw_864 : (Jvm.Cond.methodLink "NamelessBox" (229 : Nat) ({ cls := "NamelessBox", name := "answerShare", desc := "()I" } : Jvm.MethodName)) ∈ cx_G := cx_t4 144 (by decide +kernel) rfl
theorem hw_866 : (Jvm.Cond.instanceMethod ({ cls := "NamelessBox", name := "answerShare", desc := "()I" } : Jvm.MethodName)) ∈ cx_G := cx_t4 146 (by decide +kernel) rfl
theorem hw_867 : (Jvm.Cond.code ({ cls := "NamelessBox", name := "answerShare", desc := "()I" } : Jvm.MethodName) prog_1_method_51_code (1 : Nat) (Option.some Jvm.ClassFile.FieldType.int)) ∈ cx_G := cx_t4 147 (by decide +kernel) rfl
theorem hw_868 : (Jvm.Cond.methodLink "NamelessBox" (318 : Nat) ({ cls := "NamelessBox$Limbs", name := "carry", desc := "([JI)V" } : Jvm.MethodName)) ∈ cx_G := cx_t4 148 (by decide +kernel) rfl
theorem hw_869 : (Jvm.Cond.methodLink "NamelessBoxLaw" (106 : Nat) ({ cls := "NamelessBox", name := "noneOf", desc := "(I)I" } : Jvm.MethodName)) ∈ cx_G := cx_t4 149 (by decide +kernel) rfl
theorem hw_870 : (Jvm.Cond.instanceMethod ({ cls := "NamelessBox", name := "noneOf", desc := "(I)I" } : Jvm.MethodName)) ∈ cx_G := cx_t4 150 (by decide +kernel) rfl
theorem hw_871 : (Jvm.Cond.selects "NamelessBox" ({ cls := "NamelessBox", name := "noneOf", desc := "(I)I" } : Jvm.MethodName) ({ cls := "NamelessBox", name := "noneOf", desc := "(I)I" } : Jvm.MethodName)) ∈ cx_G := cx_t4 151 (by decide +kernel) rfl
theorem hw_872 : (Jvm.Cond.code ({ cls := "NamelessBox", name := "noneOf", desc := "(I)I" } : Jvm.MethodName) prog_1_method_23_code (2 : Nat) (Option.some Jvm.ClassFile.FieldType.int)) ∈ cx_G := cx_t4 152 (by decide +kernel) rfl
theorem hw_873 : (Jvm.Cond.methodLink "NamelessBox" (232 : Nat) ({ cls := "NamelessBox$Sums", name := "addCrowdsWithout", desc := "(I)V" } : Jvm.MethodName)) ∈ cx_G := cx_t4 153 (by decide +kernel) rfl
theorem hw_874 : (Jvm.Cond.instanceMethod ({ cls := "NamelessBox$Sums", name := "addCrowdsWithout", desc := "(I)V" } : Jvm.MethodName)) ∈ cx_G := cx_t4 154 (by decide +kernel) rfl
theorem hw_875 : (Jvm.Cond.selects "NamelessBox$Sums" ({ cls := "NamelessBox$Sums", name := "addCrowdsWithout", desc := "(I)V" } : Jvm.MethodName) ({ cls := "NamelessBox$Sums", name := "addCrowdsWithout", desc := "(I)V" } : Jvm.MethodName)) ∈ cx_G := cx_t4 155 (by decide +kernel) rfl
theorem hw_876 : (Jvm.Cond.code ({ cls := "NamelessBox$Sums", name := "addCrowdsWithout", desc := "(I)V" } : Jvm.MethodName) prog_7_method_11_code (3 : Nat) (Option.none : Option Jvm.ClassFile.FieldType)) ∈ cx_G := cx_t4 156 (by decide +kernel) rfl
theorem hw_877 : (Jvm.Cond.methodLink "NamelessBoxLaw" (110 : Nat) ({ cls := "NamelessBox", name := "friend", desc := "(I)I" } : Jvm.MethodName)) ∈ cx_G := cx_t4 157 (by decide +kernel) rfl
theorem hw_878 : (Jvm.Cond.instanceMethod ({ cls := "NamelessBox", name := "friend", desc := "(I)I" } : Jvm.MethodName)) ∈ cx_G := cx_t4 158 (by decide +kernel) rfl
theorem hw_879 : (Jvm.Cond.selects "NamelessBox" ({ cls := "NamelessBox", name := "friend", desc := "(I)I" } : Jvm.MethodName) ({ cls := "NamelessBox", name := "friend", desc := "(I)I" } : Jvm.MethodName)) ∈ cx_G := cx_t4 159 (by decide +kernel) rfl
theorem hw_880 : (Jvm.Cond.code ({ cls := "NamelessBox", name := "friend", desc := "(I)I" } : Jvm.MethodName) prog_1_method_24_code (3 : Nat) (Option.some Jvm.ClassFile.FieldType.int)) ∈ cx_G := cx_t4 160 (by decide +kernel) rfl
theorem hw_881 : (Jvm.Cond.methodLink "NamelessBox" (235 : Nat) ({ cls := "NamelessBox", name := "addStrangerBeside", desc := "(II)V" } : Jvm.MethodName)) ∈ cx_G := cx_t4 161 (by decide +kernel) rfl
theorem hw_883 : (Jvm.Cond.instanceMethod ({ cls := "NamelessBox", name := "addStrangerBeside", desc := "(II)V" } : Jvm.MethodName)) ∈ cx_G := cx_t4 163 (by decide +kernel) rfl
theorem hw_884 : (Jvm.Cond.code ({ cls := "NamelessBox", name := "addStrangerBeside", desc := "(II)V" } : Jvm.MethodName) prog_1_method_53_code (5 : Nat) (Option.none : Option Jvm.ClassFile.FieldType)) ∈ cx_G := cx_t4 164 (by decide +kernel) rfl
theorem hw_885 : (Jvm.Cond.methodLink "NamelessBox" (249 : Nat) ({ cls := "NamelessBox$Rows", name := "at", desc := "(II)I" } : Jvm.MethodName)) ∈ cx_G := cx_t4 165 (by decide +kernel) rfl
theorem hw_886 : (Jvm.Cond.methodLink "NamelessBoxLaw" (114 : Nat) ({ cls := "NamelessBox", name := "of", desc := "(II)I" } : Jvm.MethodName)) ∈ cx_G := cx_t4 166 (by decide +kernel) rfl
theorem hw_887 : (Jvm.Cond.instanceMethod ({ cls := "NamelessBox", name := "of", desc := "(II)I" } : Jvm.MethodName)) ∈ cx_G := cx_t4 167 (by decide +kernel) rfl
theorem hw_888 : (Jvm.Cond.selects "NamelessBox" ({ cls := "NamelessBox", name := "of", desc := "(II)I" } : Jvm.MethodName) ({ cls := "NamelessBox", name := "of", desc := "(II)I" } : Jvm.MethodName)) ∈ cx_G := cx_t4 168 (by decide +kernel) rfl
theorem hw_889 : (Jvm.Cond.code ({ cls := "NamelessBox", name := "of", desc := "(II)I" } : Jvm.MethodName) prog_1_method_25_code (3 : Nat) (Option.some Jvm.ClassFile.FieldType.int)) ∈ cx_G := cx_t4 169 (by decide +kernel) rfl
theorem hw_890 : (Jvm.Cond.methodLink "NamelessBoxLaw" (118 : Nat) ({ cls := "NamelessBox", name := "when", desc := "(II)I" } : Jvm.MethodName)) ∈ cx_G := cx_t4 170 (by decide +kernel) rfl
theorem hw_891 : (Jvm.Cond.instanceMethod ({ cls := "NamelessBox", name := "when", desc := "(II)I" } : Jvm.MethodName)) ∈ cx_G := cx_t4 171 (by decide +kernel) rfl
theorem hw_892 : (Jvm.Cond.selects "NamelessBox" ({ cls := "NamelessBox", name := "when", desc := "(II)I" } : Jvm.MethodName) ({ cls := "NamelessBox", name := "when", desc := "(II)I" } : Jvm.MethodName)) ∈ cx_G := cx_t4 172 (by decide +kernel) rfl
theorem hw_893 : (Jvm.Cond.code ({ cls := "NamelessBox", name := "when", desc := "(II)I" } : Jvm.MethodName) prog_1_method_26_code (3 : Nat) (Option.some Jvm.ClassFile.FieldType.int)) ∈ cx_G := cx_t4 173 (by decide +kernel) rfl
theorem hw_894 : (Jvm.Cond.methodLink "NamelessBox" (242 : Nat) ({ cls := "NamelessBox", name := "isYearOf", desc := "(II)Z" } : Jvm.MethodName)) ∈ cx_G := cx_t4 174 (by decide +kernel) rfl
theorem hw_896 : (Jvm.Cond.instanceMethod ({ cls := "NamelessBox", name := "isYearOf", desc := "(II)Z" } : Jvm.MethodName)) ∈ cx_G := cx_t4 176 (by decide +kernel) rfl
theorem hw_897 : (Jvm.Cond.code ({ cls := "NamelessBox", name := "isYearOf", desc := "(II)Z" } : Jvm.MethodName) prog_1_method_46_code (3 : Nat) (Option.some Jvm.ClassFile.FieldType.boolean)) ∈ cx_G := cx_t4 177 (by decide +kernel) rfl
theorem hw_898 : (Jvm.Cond.methodLink "NamelessBox" (245 : Nat) ({ cls := "NamelessBox$Ways", name := "lookAtYear", desc := "(IIZ)V" } : Jvm.MethodName)) ∈ cx_G := cx_t4 178 (by decide +kernel) rfl
theorem hw_899 : (Jvm.Cond.instanceMethod ({ cls := "NamelessBox$Ways", name := "lookAtYear", desc := "(IIZ)V" } : Jvm.MethodName)) ∈ cx_G := cx_t4 179 (by decide +kernel) rfl
theorem hw_900 : (Jvm.Cond.selects "NamelessBox$Ways" ({ cls := "NamelessBox$Ways", name := "lookAtYear", desc := "(IIZ)V" } : Jvm.MethodName) ({ cls := "NamelessBox$Ways", name := "lookAtYear", desc := "(IIZ)V" } : Jvm.MethodName)) ∈ cx_G := cx_t4 180 (by decide +kernel) rfl
theorem hw_901 : (Jvm.Cond.code ({ cls := "NamelessBox$Ways", name := "lookAtYear", desc := "(IIZ)V" } : Jvm.MethodName) prog_9_method_4_code (4 : Nat) (Option.none : Option Jvm.ClassFile.FieldType)) ∈ cx_G := cx_t4 181 (by decide +kernel) rfl
theorem hw_902 : (Jvm.Cond.methodLink "NamelessBox$Ways" (102 : Nat) ({ cls := "NamelessBox$Rows", name := "has", desc := "(I)Z" } : Jvm.MethodName)) ∈ cx_G := cx_t4 182 (by decide +kernel) rfl
theorem hw_903 : (Jvm.Cond.methodLink "NamelessBoxLaw" (122 : Nat) ({ cls := "NamelessBox", name := "span", desc := "(II)I" } : Jvm.MethodName)) ∈ cx_G := cx_t4 183 (by decide +kernel) rfl
theorem hw_904 : (Jvm.Cond.instanceMethod ({ cls := "NamelessBox", name := "span", desc := "(II)I" } : Jvm.MethodName)) ∈ cx_G := cx_t4 184 (by decide +kernel) rfl
theorem hw_905 : (Jvm.Cond.selects "NamelessBox" ({ cls := "NamelessBox", name := "span", desc := "(II)I" } : Jvm.MethodName) ({ cls := "NamelessBox", name := "span", desc := "(II)I" } : Jvm.MethodName)) ∈ cx_G := cx_t4 185 (by decide +kernel) rfl
theorem hw_906 : (Jvm.Cond.code ({ cls := "NamelessBox", name := "span", desc := "(II)I" } : Jvm.MethodName) prog_1_method_27_code (7 : Nat) (Option.some Jvm.ClassFile.FieldType.int)) ∈ cx_G := cx_t4 186 (by decide +kernel) rfl
theorem hw_907 : (Jvm.Cond.methodLink "NamelessBoxLaw" (126 : Nat) ({ cls := "NamelessBox", name := "ahead", desc := "(II)I" } : Jvm.MethodName)) ∈ cx_G := cx_t4 187 (by decide +kernel) rfl
theorem hw_908 : (Jvm.Cond.instanceMethod ({ cls := "NamelessBox", name := "ahead", desc := "(II)I" } : Jvm.MethodName)) ∈ cx_G := cx_t4 188 (by decide +kernel) rfl
theorem hw_909 : (Jvm.Cond.selects "NamelessBox" ({ cls := "NamelessBox", name := "ahead", desc := "(II)I" } : Jvm.MethodName) ({ cls := "NamelessBox", name := "ahead", desc := "(II)I" } : Jvm.MethodName)) ∈ cx_G := cx_t4 189 (by decide +kernel) rfl
theorem hw_910 : (Jvm.Cond.code ({ cls := "NamelessBox", name := "ahead", desc := "(II)I" } : Jvm.MethodName) prog_1_method_28_code (3 : Nat) (Option.some Jvm.ClassFile.FieldType.int)) ∈ cx_G := cx_t4 190 (by decide +kernel) rfl
theorem hw_911 : (Jvm.Cond.methodLink "NamelessBox" (252 : Nat) ({ cls := "NamelessBox$Ways", name := "lookInOrder", desc := "(II)V" } : Jvm.MethodName)) ∈ cx_G := cx_t4 191 (by decide +kernel) rfl
theorem hw_912 : (Jvm.Cond.instanceMethod ({ cls := "NamelessBox$Ways", name := "lookInOrder", desc := "(II)V" } : Jvm.MethodName)) ∈ cx_G := cx_t4 192 (by decide +kernel) rfl
theorem hw_913 : (Jvm.Cond.selects "NamelessBox$Ways" ({ cls := "NamelessBox$Ways", name := "lookInOrder", desc := "(II)V" } : Jvm.MethodName) ({ cls := "NamelessBox$Ways", name := "lookInOrder", desc := "(II)V" } : Jvm.MethodName)) ∈ cx_G := cx_t4 193 (by decide +kernel) rfl
theorem hw_914 : (Jvm.Cond.code ({ cls := "NamelessBox$Ways", name := "lookInOrder", desc := "(II)V" } : Jvm.MethodName) prog_9_method_5_code (3 : Nat) (Option.none : Option Jvm.ClassFile.FieldType)) ∈ cx_G := cx_t4 194 (by decide +kernel) rfl
theorem hw_915 : (Jvm.Cond.methodLink "NamelessBoxLaw" (130 : Nat) ({ cls := "NamelessBox", name := "parts", desc := "(II)I" } : Jvm.MethodName)) ∈ cx_G := cx_t4 195 (by decide +kernel) rfl
theorem hw_916 : (Jvm.Cond.instanceMethod ({ cls := "NamelessBox", name := "parts", desc := "(II)I" } : Jvm.MethodName)) ∈ cx_G := cx_t4 196 (by decide +kernel) rfl
theorem hw_917 : (Jvm.Cond.selects "NamelessBox" ({ cls := "NamelessBox", name := "parts", desc := "(II)I" } : Jvm.MethodName) ({ cls := "NamelessBox", name := "parts", desc := "(II)I" } : Jvm.MethodName)) ∈ cx_G := cx_t4 197 (by decide +kernel) rfl
theorem hw_918 : (Jvm.Cond.code ({ cls := "NamelessBox", name := "parts", desc := "(II)I" } : Jvm.MethodName) prog_1_method_29_code (6 : Nat) (Option.some Jvm.ClassFile.FieldType.int)) ∈ cx_G := cx_t4 198 (by decide +kernel) rfl
theorem hw_919 : (Jvm.Cond.methodLink "NamelessBox" (255 : Nat) ({ cls := "NamelessBox", name := "areTwoPeople", desc := "(II)Z" } : Jvm.MethodName)) ∈ cx_G := cx_t4 199 (by decide +kernel) rfl
theorem hw_921 : (Jvm.Cond.instanceMethod ({ cls := "NamelessBox", name := "areTwoPeople", desc := "(II)Z" } : Jvm.MethodName)) ∈ cx_G := cx_t4 201 (by decide +kernel) rfl
theorem hw_922 : (Jvm.Cond.code ({ cls := "NamelessBox", name := "areTwoPeople", desc := "(II)Z" } : Jvm.MethodName) prog_1_method_45_code (3 : Nat) (Option.some Jvm.ClassFile.FieldType.boolean)) ∈ cx_G := cx_t4 202 (by decide +kernel) rfl
theorem hw_923 : (Jvm.Cond.methodLink "NamelessBoxLaw" (134 : Nat) ({ cls := "NamelessBox", name := "doubt", desc := "(II)I" } : Jvm.MethodName)) ∈ cx_G := cx_t4 203 (by decide +kernel) rfl
theorem hw_924 : (Jvm.Cond.instanceMethod ({ cls := "NamelessBox", name := "doubt", desc := "(II)I" } : Jvm.MethodName)) ∈ cx_G := cx_t4 204 (by decide +kernel) rfl
theorem hw_925 : (Jvm.Cond.selects "NamelessBox" ({ cls := "NamelessBox", name := "doubt", desc := "(II)I" } : Jvm.MethodName) ({ cls := "NamelessBox", name := "doubt", desc := "(II)I" } : Jvm.MethodName)) ∈ cx_G := cx_t4 205 (by decide +kernel) rfl
theorem hw_926 : (Jvm.Cond.code ({ cls := "NamelessBox", name := "doubt", desc := "(II)I" } : Jvm.MethodName) prog_1_method_30_code (3 : Nat) (Option.some Jvm.ClassFile.FieldType.int)) ∈ cx_G := cx_t4 206 (by decide +kernel) rfl
theorem hw_927 : (Jvm.Cond.methodLink "NamelessBox" (258 : Nat) ({ cls := "NamelessBox$Sums", name := "closestHead", desc := "(II)I" } : Jvm.MethodName)) ∈ cx_G := cx_t4 207 (by decide +kernel) rfl
theorem hw_928 : (Jvm.Cond.instanceMethod ({ cls := "NamelessBox$Sums", name := "closestHead", desc := "(II)I" } : Jvm.MethodName)) ∈ cx_G := cx_t4 208 (by decide +kernel) rfl
theorem hw_929 : (Jvm.Cond.selects "NamelessBox$Sums" ({ cls := "NamelessBox$Sums", name := "closestHead", desc := "(II)I" } : Jvm.MethodName) ({ cls := "NamelessBox$Sums", name := "closestHead", desc := "(II)I" } : Jvm.MethodName)) ∈ cx_G := cx_t4 209 (by decide +kernel) rfl
theorem hw_930 : (Jvm.Cond.code ({ cls := "NamelessBox$Sums", name := "closestHead", desc := "(II)I" } : Jvm.MethodName) prog_7_method_15_code (8 : Nat) (Option.some Jvm.ClassFile.FieldType.int)) ∈ cx_G := cx_t4 210 (by decide +kernel) rfl
theorem hw_931 : (Jvm.Cond.methodLink "NamelessBoxLaw" (138 : Nat) ({ cls := "NamelessBox", name := "right", desc := "()I" } : Jvm.MethodName)) ∈ cx_G := cx_t4 211 (by decide +kernel) rfl
theorem hw_932 : (Jvm.Cond.instanceMethod ({ cls := "NamelessBox", name := "right", desc := "()I" } : Jvm.MethodName)) ∈ cx_G := cx_t4 212 (by decide +kernel) rfl
theorem hw_933 : (Jvm.Cond.selects "NamelessBox" ({ cls := "NamelessBox", name := "right", desc := "()I" } : Jvm.MethodName) ({ cls := "NamelessBox", name := "right", desc := "()I" } : Jvm.MethodName)) ∈ cx_G := cx_t4 213 (by decide +kernel) rfl
theorem hw_934 : (Jvm.Cond.code ({ cls := "NamelessBox", name := "right", desc := "()I" } : Jvm.MethodName) prog_1_method_31_code (1 : Nat) (Option.some Jvm.ClassFile.FieldType.int)) ∈ cx_G := cx_t4 214 (by decide +kernel) rfl
theorem hw_935 : (Jvm.Cond.methodLink "NamelessBox" (261 : Nat) ({ cls := "NamelessBox$Sums", name := "addLikeliest", desc := "()V" } : Jvm.MethodName)) ∈ cx_G := cx_t4 215 (by decide +kernel) rfl
theorem hw_936 : (Jvm.Cond.instanceMethod ({ cls := "NamelessBox$Sums", name := "addLikeliest", desc := "()V" } : Jvm.MethodName)) ∈ cx_G := cx_t4 216 (by decide +kernel) rfl
theorem hw_937 : (Jvm.Cond.selects "NamelessBox$Sums" ({ cls := "NamelessBox$Sums", name := "addLikeliest", desc := "()V" } : Jvm.MethodName) ({ cls := "NamelessBox$Sums", name := "addLikeliest", desc := "()V" } : Jvm.MethodName)) ∈ cx_G := cx_t4 217 (by decide +kernel) rfl
theorem hw_938 : (Jvm.Cond.code ({ cls := "NamelessBox$Sums", name := "addLikeliest", desc := "()V" } : Jvm.MethodName) prog_7_method_13_code (2 : Nat) (Option.none : Option Jvm.ClassFile.FieldType)) ∈ cx_G := cx_t4 218 (by decide +kernel) rfl
theorem hw_939 : (Jvm.Cond.methodLink "NamelessBoxLaw" (142 : Nat) ({ cls := "NamelessBox", name := "ask", desc := "(I)I" } : Jvm.MethodName)) ∈ cx_G := cx_t4 219 (by decide +kernel) rfl
theorem hw_940 : (Jvm.Cond.instanceMethod ({ cls := "NamelessBox", name := "ask", desc := "(I)I" } : Jvm.MethodName)) ∈ cx_G := cx_t4 220 (by decide +kernel) rfl
theorem hw_941 : (Jvm.Cond.selects "NamelessBox" ({ cls := "NamelessBox", name := "ask", desc := "(I)I" } : Jvm.MethodName) ({ cls := "NamelessBox", name := "ask", desc := "(I)I" } : Jvm.MethodName)) ∈ cx_G := cx_t4 221 (by decide +kernel) rfl
theorem hw_942 : (Jvm.Cond.code ({ cls := "NamelessBox", name := "ask", desc := "(I)I" } : Jvm.MethodName) prog_1_method_32_code (2 : Nat) (Option.some Jvm.ClassFile.FieldType.int)) ∈ cx_G := cx_t4 222 (by decide +kernel) rfl
theorem hw_943 : (Jvm.Cond.methodLink "NamelessBox" (264 : Nat) ({ cls := "NamelessBox$Aunt", name := "weigh", desc := "(I)V" } : Jvm.MethodName)) ∈ cx_G := cx_t4 223 (by decide +kernel) rfl
theorem hw_944 : (Jvm.Cond.instanceMethod ({ cls := "NamelessBox$Aunt", name := "weigh", desc := "(I)V" } : Jvm.MethodName)) ∈ cx_G := cx_t4 224 (by decide +kernel) rfl
theorem hw_945 : (Jvm.Cond.selects "NamelessBox$Aunt" ({ cls := "NamelessBox$Aunt", name := "weigh", desc := "(I)V" } : Jvm.MethodName) ({ cls := "NamelessBox$Aunt", name := "weigh", desc := "(I)V" } : Jvm.MethodName)) ∈ cx_G := cx_t4 225 (by decide +kernel) rfl
theorem hw_946 : (Jvm.Cond.code ({ cls := "NamelessBox$Aunt", name := "weigh", desc := "(I)V" } : Jvm.MethodName) prog_2_method_3_code (4 : Nat) (Option.none : Option Jvm.ClassFile.FieldType)) ∈ cx_G := cx_t4 226 (by decide +kernel) rfl
theorem hw_947 : (Jvm.Cond.methodLink "NamelessBox$Aunt" (67 : Nat) ({ cls := "NamelessBox$Limbs", name := "zero", desc := "([JI)V" } : Jvm.MethodName)) ∈ cx_G := cx_t4 227 (by decide +kernel) rfl
theorem hw_948 : (Jvm.Cond.methodLink "NamelessBox$Aunt" (60 : Nat) ({ cls := "NamelessBox$Limbs", name := "copy", desc := "([JI[JI)V" } : Jvm.MethodName)) ∈ cx_G := cx_t4 228 (by decide +kernel) rfl
theorem hw_949 : (Jvm.Cond.methodLink "NamelessBox$Aunt" (76 : Nat) ({ cls := "NamelessBox$Limbs", name := "multiply", desc := "([JI[JIJ)V" } : Jvm.MethodName)) ∈ cx_G := cx_t4 229 (by decide +kernel) rfl
theorem hw_950 : (Jvm.Cond.methodLink "NamelessBox$Aunt" (80 : Nat) ({ cls := "NamelessBox$Aunt", name := "planWrongly", desc := "(II)V" } : Jvm.MethodName)) ∈ cx_G := cx_t4 230 (by decide +kernel) rfl
theorem hw_952 : (Jvm.Cond.instanceMethod ({ cls := "NamelessBox$Aunt", name := "planWrongly", desc := "(II)V" } : Jvm.MethodName)) ∈ cx_G := cx_t4 232 (by decide +kernel) rfl
theorem hw_953 : (Jvm.Cond.code ({ cls := "NamelessBox$Aunt", name := "planWrongly", desc := "(II)V" } : Jvm.MethodName) prog_2_method_4_code (7 : Nat) (Option.none : Option Jvm.ClassFile.FieldType)) ∈ cx_G := cx_t4 233 (by decide +kernel) rfl
theorem hw_955 : (Jvm.Cond.methodLink "NamelessBox$Aunt" (106 : Nat) ({ cls := "NamelessBox$Sums", name := "putJoint", desc := "([JIIIII)V" } : Jvm.MethodName)) ∈ cx_G := cx_t4 235 (by decide +kernel) rfl
theorem hw_956 : (Jvm.Cond.methodLink "NamelessBox$Aunt" (110 : Nat) ({ cls := "NamelessBox$Box", name := "auntTruth", desc := "(I)I" } : Jvm.MethodName)) ∈ cx_G := cx_t4 236 (by decide +kernel) rfl
theorem hw_957 : (Jvm.Cond.instanceMethod ({ cls := "NamelessBox$Box", name := "auntTruth", desc := "(I)I" } : Jvm.MethodName)) ∈ cx_G := cx_t4 237 (by decide +kernel) rfl
theorem hw_958 : (Jvm.Cond.selects "NamelessBox$Box" ({ cls := "NamelessBox$Box", name := "auntTruth", desc := "(I)I" } : Jvm.MethodName) ({ cls := "NamelessBox$Box", name := "auntTruth", desc := "(I)I" } : Jvm.MethodName)) ∈ cx_G := cx_t4 238 (by decide +kernel) rfl
theorem hw_959 : (Jvm.Cond.code ({ cls := "NamelessBox$Box", name := "auntTruth", desc := "(I)I" } : Jvm.MethodName) prog_3_method_18_code (2 : Nat) (Option.some Jvm.ClassFile.FieldType.int)) ∈ cx_G := cx_t4 239 (by decide +kernel) rfl
theorem hw_960 : (Jvm.Cond.methodLink "NamelessBox$Aunt" (114 : Nat) ({ cls := "NamelessBox$Limbs", name := "add", desc := "([JI[JI)V" } : Jvm.MethodName)) ∈ cx_G := cx_t5 0 (by decide +kernel) rfl
theorem hw_961 : (Jvm.Cond.methodLink "NamelessBox$Aunt" (84 : Nat) ({ cls := "NamelessBox$Aunt", name := "addBehind", desc := "(II)V" } : Jvm.MethodName)) ∈ cx_G := cx_t5 1 (by decide +kernel) rfl
theorem hw_963 : (Jvm.Cond.instanceMethod ({ cls := "NamelessBox$Aunt", name := "addBehind", desc := "(II)V" } : Jvm.MethodName)) ∈ cx_G := cx_t5 3 (by decide +kernel) rfl
theorem hw_964 : (Jvm.Cond.code ({ cls := "NamelessBox$Aunt", name := "addBehind", desc := "(II)V" } : Jvm.MethodName) prog_2_method_5_code (9 : Nat) (Option.none : Option Jvm.ClassFile.FieldType)) ∈ cx_G := cx_t5 4 (by decide +kernel) rfl
theorem hw_965 : (Jvm.Cond.methodLink "NamelessBox$Aunt" (87 : Nat) ({ cls := "NamelessBox$Limbs", name := "carry", desc := "([JI)V" } : Jvm.MethodName)) ∈ cx_G := cx_t5 5 (by decide +kernel) rfl
theorem hw_966 : (Jvm.Cond.methodLink "NamelessBox$Aunt" (56 : Nat) ({ cls := "NamelessBox$Limbs", name := "compare", desc := "([JI[JI)I" } : Jvm.MethodName)) ∈ cx_G := cx_t5 6 (by decide +kernel) rfl
theorem hw_967 : (Jvm.Cond.methodLink "NamelessBox$Aunt" (90 : Nat) ({ cls := "NamelessBox$Sums", name := "startAnswer", desc := "()V" } : Jvm.MethodName)) ∈ cx_G := cx_t5 7 (by decide +kernel) rfl
theorem hw_968 : (Jvm.Cond.methodLink "NamelessBox$Aunt" (93 : Nat) ({ cls := "NamelessBox$Sums", name := "addLikeliest", desc := "()V" } : Jvm.MethodName)) ∈ cx_G := cx_t5 8 (by decide +kernel) rfl
theorem hw_969 : (Jvm.Cond.methodLink "NamelessBox$Aunt" (99 : Nat) ({ cls := "NamelessBox$Limbs", name := "subtract", desc := "([JI[JI)V" } : Jvm.MethodName)) ∈ cx_G := cx_t5 9 (by decide +kernel) rfl
theorem hw_970 : (Jvm.Cond.methodLink "NamelessBoxLaw" (146 : Nat) ({ cls := "NamelessBox", name := "next", desc := "()I" } : Jvm.MethodName)) ∈ cx_G := cx_t5 10 (by decide +kernel) rfl
theorem hw_971 : (Jvm.Cond.instanceMethod ({ cls := "NamelessBox", name := "next", desc := "()I" } : Jvm.MethodName)) ∈ cx_G := cx_t5 11 (by decide +kernel) rfl
theorem hw_972 : (Jvm.Cond.selects "NamelessBox" ({ cls := "NamelessBox", name := "next", desc := "()I" } : Jvm.MethodName) ({ cls := "NamelessBox", name := "next", desc := "()I" } : Jvm.MethodName)) ∈ cx_G := cx_t5 12 (by decide +kernel) rfl
theorem hw_973 : (Jvm.Cond.code ({ cls := "NamelessBox", name := "next", desc := "()I" } : Jvm.MethodName) prog_1_method_33_code (2 : Nat) (Option.some Jvm.ClassFile.FieldType.int)) ∈ cx_G := cx_t5 13 (by decide +kernel) rfl
theorem hw_974 : (Jvm.Cond.methodLink "NamelessBox" (277 : Nat) ({ cls := "NamelessBox$Aunt", name := "findDearest", desc := "()I" } : Jvm.MethodName)) ∈ cx_G := cx_t5 14 (by decide +kernel) rfl
theorem hw_975 : (Jvm.Cond.instanceMethod ({ cls := "NamelessBox$Aunt", name := "findDearest", desc := "()I" } : Jvm.MethodName)) ∈ cx_G := cx_t5 15 (by decide +kernel) rfl
theorem hw_976 : (Jvm.Cond.selects "NamelessBox$Aunt" ({ cls := "NamelessBox$Aunt", name := "findDearest", desc := "()I" } : Jvm.MethodName) ({ cls := "NamelessBox$Aunt", name := "findDearest", desc := "()I" } : Jvm.MethodName)) ∈ cx_G := cx_t5 16 (by decide +kernel) rfl
theorem hw_977 : (Jvm.Cond.code ({ cls := "NamelessBox$Aunt", name := "findDearest", desc := "()I" } : Jvm.MethodName) prog_2_method_2_code (3 : Nat) (Option.some Jvm.ClassFile.FieldType.int)) ∈ cx_G := cx_t5 17 (by decide +kernel) rfl
theorem hw_978 : (Jvm.Cond.methodLink "NamelessBox$Aunt" (52 : Nat) ({ cls := "NamelessBox$Aunt", name := "weigh", desc := "(I)V" } : Jvm.MethodName)) ∈ cx_G := cx_t5 18 (by decide +kernel) rfl
theorem hw_979 : (Jvm.Cond.methodLink "NamelessBoxLaw" (150 : Nat) ({ cls := "NamelessBox", name := "sign", desc := "(I)I" } : Jvm.MethodName)) ∈ cx_G := cx_t5 19 (by decide +kernel) rfl
theorem hw_980 : (Jvm.Cond.instanceMethod ({ cls := "NamelessBox", name := "sign", desc := "(I)I" } : Jvm.MethodName)) ∈ cx_G := cx_t5 20 (by decide +kernel) rfl
theorem hw_981 : (Jvm.Cond.selects "NamelessBox" ({ cls := "NamelessBox", name := "sign", desc := "(I)I" } : Jvm.MethodName) ({ cls := "NamelessBox", name := "sign", desc := "(I)I" } : Jvm.MethodName)) ∈ cx_G := cx_t5 21 (by decide +kernel) rfl
theorem hw_982 : (Jvm.Cond.code ({ cls := "NamelessBox", name := "sign", desc := "(I)I" } : Jvm.MethodName) prog_1_method_34_code (2 : Nat) (Option.some Jvm.ClassFile.FieldType.int)) ∈ cx_G := cx_t5 22 (by decide +kernel) rfl
theorem hw_983 : (Jvm.Cond.methodLink "NamelessBox" (283 : Nat) ({ cls := "NamelessBox$Fraction", name := "isZero", desc := "()Z" } : Jvm.MethodName)) ∈ cx_G := cx_t5 23 (by decide +kernel) rfl
theorem hw_984 : (Jvm.Cond.instanceMethod ({ cls := "NamelessBox$Fraction", name := "isZero", desc := "()Z" } : Jvm.MethodName)) ∈ cx_G := cx_t5 24 (by decide +kernel) rfl
theorem hw_985 : (Jvm.Cond.selects "NamelessBox$Fraction" ({ cls := "NamelessBox$Fraction", name := "isZero", desc := "()Z" } : Jvm.MethodName) ({ cls := "NamelessBox$Fraction", name := "isZero", desc := "()Z" } : Jvm.MethodName)) ∈ cx_G := cx_t5 25 (by decide +kernel) rfl
theorem hw_986 : (Jvm.Cond.code ({ cls := "NamelessBox$Fraction", name := "isZero", desc := "()Z" } : Jvm.MethodName) prog_4_method_2_code (1 : Nat) (Option.some Jvm.ClassFile.FieldType.boolean)) ∈ cx_G := cx_t5 26 (by decide +kernel) rfl
theorem hw_987 : (Jvm.Cond.methodLink "NamelessBox" (289 : Nat) ({ cls := "NamelessBox$Limbs", name := "length", desc := "([JI)I" } : Jvm.MethodName)) ∈ cx_G := cx_t5 27 (by decide +kernel) rfl
theorem hw_988 : (Jvm.Cond.static ({ cls := "NamelessBox$Limbs", name := "length", desc := "([JI)I" } : Jvm.MethodName)) ∈ cx_G := cx_t5 28 (by decide +kernel) rfl
theorem hw_989 : (Jvm.Cond.code ({ cls := "NamelessBox$Limbs", name := "length", desc := "([JI)I" } : Jvm.MethodName) prog_5_method_15_code (3 : Nat) (Option.some Jvm.ClassFile.FieldType.int)) ∈ cx_G := cx_t5 29 (by decide +kernel) rfl
theorem hw_990 : (Jvm.Cond.methodLink "NamelessBoxLaw" (154 : Nat) ({ cls := "NamelessBox", name := "limb", desc := "(II)I" } : Jvm.MethodName)) ∈ cx_G := cx_t5 30 (by decide +kernel) rfl
theorem hw_991 : (Jvm.Cond.instanceMethod ({ cls := "NamelessBox", name := "limb", desc := "(II)I" } : Jvm.MethodName)) ∈ cx_G := cx_t5 31 (by decide +kernel) rfl
theorem hw_992 : (Jvm.Cond.selects "NamelessBox" ({ cls := "NamelessBox", name := "limb", desc := "(II)I" } : Jvm.MethodName) ({ cls := "NamelessBox", name := "limb", desc := "(II)I" } : Jvm.MethodName)) ∈ cx_G := cx_t5 32 (by decide +kernel) rfl
theorem hw_993 : (Jvm.Cond.code ({ cls := "NamelessBox", name := "limb", desc := "(II)I" } : Jvm.MethodName) prog_1_method_35_code (4 : Nat) (Option.some Jvm.ClassFile.FieldType.int)) ∈ cx_G := cx_t5 33 (by decide +kernel) rfl
theorem hw_994 : (Jvm.Cond.methodLink "NamelessBoxLaw" (158 : Nat) ({ cls := "NamelessBox", name := "image", desc := "(I)I" } : Jvm.MethodName)) ∈ cx_G := cx_t5 34 (by decide +kernel) rfl
theorem hw_995 : (Jvm.Cond.instanceMethod ({ cls := "NamelessBox", name := "image", desc := "(I)I" } : Jvm.MethodName)) ∈ cx_G := cx_t5 35 (by decide +kernel) rfl
theorem hw_996 : (Jvm.Cond.selects "NamelessBox" ({ cls := "NamelessBox", name := "image", desc := "(I)I" } : Jvm.MethodName) ({ cls := "NamelessBox", name := "image", desc := "(I)I" } : Jvm.MethodName)) ∈ cx_G := cx_t5 36 (by decide +kernel) rfl
theorem hw_997 : (Jvm.Cond.code ({ cls := "NamelessBox", name := "image", desc := "(I)I" } : Jvm.MethodName) prog_1_method_36_code (2 : Nat) (Option.some Jvm.ClassFile.FieldType.int)) ∈ cx_G := cx_t5 37 (by decide +kernel) rfl
theorem hw_998 : (Jvm.Cond.methodLink "NamelessBox" (297 : Nat) ({ cls := "NamelessBox", name := "imageOf", desc := "(I)LNamelessBox$Box;" } : Jvm.MethodName)) ∈ cx_G := cx_t5 38 (by decide +kernel) rfl
theorem hw_1000 : (Jvm.Cond.instanceMethod ({ cls := "NamelessBox", name := "imageOf", desc := "(I)LNamelessBox$Box;" } : Jvm.MethodName)) ∈ cx_G := cx_t5 40 (by decide +kernel) rfl
theorem hw_1001 : (Jvm.Cond.code ({ cls := "NamelessBox", name := "imageOf", desc := "(I)LNamelessBox$Box;" } : Jvm.MethodName) prog_1_method_54_code (2 : Nat) (Option.some (Jvm.ClassFile.FieldType.object "NamelessBox$Box"))) ∈ cx_G := cx_t5 41 (by decide +kernel) rfl
theorem hw_1002 : (Jvm.Cond.methodLink "NamelessBoxLaw" (162 : Nat) ({ cls := "NamelessBox", name := "from", desc := "(I)I" } : Jvm.MethodName)) ∈ cx_G := cx_t5 42 (by decide +kernel) rfl
theorem hw_1003 : (Jvm.Cond.instanceMethod ({ cls := "NamelessBox", name := "from", desc := "(I)I" } : Jvm.MethodName)) ∈ cx_G := cx_t5 43 (by decide +kernel) rfl
theorem hw_1004 : (Jvm.Cond.selects "NamelessBox" ({ cls := "NamelessBox", name := "from", desc := "(I)I" } : Jvm.MethodName) ({ cls := "NamelessBox", name := "from", desc := "(I)I" } : Jvm.MethodName)) ∈ cx_G := cx_t5 44 (by decide +kernel) rfl
theorem hw_1005 : (Jvm.Cond.code ({ cls := "NamelessBox", name := "from", desc := "(I)I" } : Jvm.MethodName) prog_1_method_37_code (2 : Nat) (Option.some Jvm.ClassFile.FieldType.int)) ∈ cx_G := cx_t5 45 (by decide +kernel) rfl
theorem hw_1006 : (Jvm.Cond.methodLink "NamelessBoxLaw" (166 : Nat) ({ cls := "NamelessBox", name := "status", desc := "(I)I" } : Jvm.MethodName)) ∈ cx_G := cx_t5 46 (by decide +kernel) rfl
theorem hw_1007 : (Jvm.Cond.instanceMethod ({ cls := "NamelessBox", name := "status", desc := "(I)I" } : Jvm.MethodName)) ∈ cx_G := cx_t5 47 (by decide +kernel) rfl
theorem hw_1008 : (Jvm.Cond.selects "NamelessBox" ({ cls := "NamelessBox", name := "status", desc := "(I)I" } : Jvm.MethodName) ({ cls := "NamelessBox", name := "status", desc := "(I)I" } : Jvm.MethodName)) ∈ cx_G := cx_t5 48 (by decide +kernel) rfl
theorem hw_1009 : (Jvm.Cond.code ({ cls := "NamelessBox", name := "status", desc := "(I)I" } : Jvm.MethodName) prog_1_method_38_code (2 : Nat) (Option.some Jvm.ClassFile.FieldType.int)) ∈ cx_G := cx_t5 49 (by decide +kernel) rfl
theorem hw_1010 : (Jvm.Cond.methodLink "NamelessBoxLaw" (170 : Nat) ({ cls := "NamelessBox", name := "count", desc := "(I)I" } : Jvm.MethodName)) ∈ cx_G := cx_t5 50 (by decide +kernel) rfl
theorem hw_1011 : (Jvm.Cond.instanceMethod ({ cls := "NamelessBox", name := "count", desc := "(I)I" } : Jvm.MethodName)) ∈ cx_G := cx_t5 51 (by decide +kernel) rfl
theorem hw_1012 : (Jvm.Cond.selects "NamelessBox" ({ cls := "NamelessBox", name := "count", desc := "(I)I" } : Jvm.MethodName) ({ cls := "NamelessBox", name := "count", desc := "(I)I" } : Jvm.MethodName)) ∈ cx_G := cx_t5 52 (by decide +kernel) rfl
theorem hw_1013 : (Jvm.Cond.code ({ cls := "NamelessBox", name := "count", desc := "(I)I" } : Jvm.MethodName) prog_1_method_39_code (2 : Nat) (Option.some Jvm.ClassFile.FieldType.int)) ∈ cx_G := cx_t5 53 (by decide +kernel) rfl
theorem hw_1014 : (Jvm.Cond.methodLink "NamelessBox" (301 : Nat) ({ cls := "NamelessBox", name := "howMany", desc := "(I)I" } : Jvm.MethodName)) ∈ cx_G := cx_t5 54 (by decide +kernel) rfl
theorem hw_1016 : (Jvm.Cond.instanceMethod ({ cls := "NamelessBox", name := "howMany", desc := "(I)I" } : Jvm.MethodName)) ∈ cx_G := cx_t5 56 (by decide +kernel) rfl
theorem hw_1017 : (Jvm.Cond.code ({ cls := "NamelessBox", name := "howMany", desc := "(I)I" } : Jvm.MethodName) prog_1_method_55_code (2 : Nat) (Option.some Jvm.ClassFile.FieldType.int)) ∈ cx_G := cx_t5 57 (by decide +kernel) rfl
theorem hw_1018 : (Jvm.Cond.methodLink "NamelessBoxLaw" (174 : Nat) ({ cls := "NamelessBox", name := "digest", desc := "()J" } : Jvm.MethodName)) ∈ cx_G := cx_t5 58 (by decide +kernel) rfl
theorem hw_1019 : (Jvm.Cond.instanceMethod ({ cls := "NamelessBox", name := "digest", desc := "()J" } : Jvm.MethodName)) ∈ cx_G := cx_t5 59 (by decide +kernel) rfl
theorem hw_1020 : (Jvm.Cond.selects "NamelessBox" ({ cls := "NamelessBox", name := "digest", desc := "()J" } : Jvm.MethodName) ({ cls := "NamelessBox", name := "digest", desc := "()J" } : Jvm.MethodName)) ∈ cx_G := cx_t5 60 (by decide +kernel) rfl
theorem hw_1021 : (Jvm.Cond.code ({ cls := "NamelessBox", name := "digest", desc := "()J" } : Jvm.MethodName) prog_1_method_40_code (4 : Nat) (Option.some Jvm.ClassFile.FieldType.long)) ∈ cx_G := cx_t5 61 (by decide +kernel) rfl
theorem hw_1022 : (Jvm.Cond.constantLong "NamelessBox" (304 : Nat) (661 : Int64)) ∈ cx_G := cx_t5 62 (by decide +kernel) rfl
theorem hw_1023 : (Jvm.Cond.constantLong "NamelessBox" (306 : Nat) (31 : Int64)) ∈ cx_G := cx_t5 63 (by decide +kernel) rfl
theorem hw_1024 : (Jvm.Cond.methodLink "NamelessBox" (308 : Nat) ({ cls := "NamelessBox$Box", name := "mixInto", desc := "(J)J" } : Jvm.MethodName)) ∈ cx_G := cx_t5 64 (by decide +kernel) rfl
theorem hw_1025 : (Jvm.Cond.instanceMethod ({ cls := "NamelessBox$Box", name := "mixInto", desc := "(J)J" } : Jvm.MethodName)) ∈ cx_G := cx_t5 65 (by decide +kernel) rfl
theorem hw_1026 : (Jvm.Cond.selects "NamelessBox$Box" ({ cls := "NamelessBox$Box", name := "mixInto", desc := "(J)J" } : Jvm.MethodName) ({ cls := "NamelessBox$Box", name := "mixInto", desc := "(J)J" } : Jvm.MethodName)) ∈ cx_G := cx_t5 66 (by decide +kernel) rfl
theorem hw_1027 : (Jvm.Cond.code ({ cls := "NamelessBox$Box", name := "mixInto", desc := "(J)J" } : Jvm.MethodName) prog_3_method_19_code (5 : Nat) (Option.some Jvm.ClassFile.FieldType.long)) ∈ cx_G := cx_t5 67 (by decide +kernel) rfl
theorem hw_1028 : (Jvm.Cond.methodLink "NamelessBox$Box" (74 : Nat) ({ cls := "NamelessBox$Rows", name := "mixInto", desc := "(J)J" } : Jvm.MethodName)) ∈ cx_G := cx_t5 68 (by decide +kernel) rfl
theorem hw_1029 : (Jvm.Cond.instanceMethod ({ cls := "NamelessBox$Rows", name := "mixInto", desc := "(J)J" } : Jvm.MethodName)) ∈ cx_G := cx_t5 69 (by decide +kernel) rfl
theorem hw_1030 : (Jvm.Cond.selects "NamelessBox$Rows" ({ cls := "NamelessBox$Rows", name := "mixInto", desc := "(J)J" } : Jvm.MethodName) ({ cls := "NamelessBox$Rows", name := "mixInto", desc := "(J)J" } : Jvm.MethodName)) ∈ cx_G := cx_t5 70 (by decide +kernel) rfl
theorem hw_1031 : (Jvm.Cond.code ({ cls := "NamelessBox$Rows", name := "mixInto", desc := "(J)J" } : Jvm.MethodName) prog_6_method_8_code (6 : Nat) (Option.some Jvm.ClassFile.FieldType.long)) ∈ cx_G := cx_t5 71 (by decide +kernel) rfl
theorem hw_1032 : (Jvm.Cond.constantLong "NamelessBox$Rows" (52 : Nat) (31 : Int64)) ∈ cx_G := cx_t5 72 (by decide +kernel) rfl
theorem hw_1033 : (Jvm.Cond.constantLong "NamelessBox$Box" (78 : Nat) (31 : Int64)) ∈ cx_G := cx_t5 73 (by decide +kernel) rfl
theorem hw_1034 : (Jvm.Cond.methodLink "NamelessBox" (312 : Nat) ({ cls := "NamelessBox$Limbs", name := "mixInto", desc := "(J[JI)J" } : Jvm.MethodName)) ∈ cx_G := cx_t5 74 (by decide +kernel) rfl
theorem hw_1035 : (Jvm.Cond.static ({ cls := "NamelessBox$Limbs", name := "mixInto", desc := "(J[JI)J" } : Jvm.MethodName)) ∈ cx_G := cx_t5 75 (by decide +kernel) rfl
theorem hw_1036 : (Jvm.Cond.code ({ cls := "NamelessBox$Limbs", name := "mixInto", desc := "(J[JI)J" } : Jvm.MethodName) prog_5_method_16_code (8 : Nat) (Option.some Jvm.ClassFile.FieldType.long)) ∈ cx_G := cx_t5 76 (by decide +kernel) rfl
theorem hw_1037 : (Jvm.Cond.methodLink "NamelessBox$Limbs" (36 : Nat) ({ cls := "NamelessBox$Limbs", name := "length", desc := "([JI)I" } : Jvm.MethodName)) ∈ cx_G := cx_t5 77 (by decide +kernel) rfl
theorem hw_1038 : (Jvm.Cond.constantLong "NamelessBox$Limbs" (40 : Nat) (31 : Int64)) ∈ cx_G := cx_t5 78 (by decide +kernel) rfl
theorem hw_1039 : (Jvm.Cond.classLink "NamelessBoxLaw" (10 : Nat) "NamelessBoxModel") ∈ cx_G := cx_t5 79 (by decide +kernel) rfl
theorem hw_1040 : (Jvm.Cond.instantiable "NamelessBoxModel" (24 : Nat)) ∈ cx_G := cx_t5 80 (by decide +kernel) rfl
theorem hw_1041 : (Jvm.Cond.methodLink "NamelessBoxLaw" (12 : Nat) ({ cls := "NamelessBoxModel", name := "<init>", desc := "()V" } : Jvm.MethodName)) ∈ cx_G := cx_t5 81 (by decide +kernel) rfl
theorem hw_1042 : (Jvm.Cond.instanceMethod ({ cls := "NamelessBoxModel", name := "<init>", desc := "()V" } : Jvm.MethodName)) ∈ cx_G := cx_t5 82 (by decide +kernel) rfl
theorem hw_1043 : (Jvm.Cond.code ({ cls := "NamelessBoxModel", name := "<init>", desc := "()V" } : Jvm.MethodName) prog_11_method_16_code (1 : Nat) (Option.none : Option Jvm.ClassFile.FieldType)) ∈ cx_G := cx_t5 83 (by decide +kernel) rfl
theorem hw_1044 : (Jvm.Cond.methodLink "NamelessBoxModel" (46 : Nat) ({ cls := "java/lang/Object", name := "<init>", desc := "()V" } : Jvm.MethodName)) ∈ cx_G := cx_t5 84 (by decide +kernel) rfl
theorem hw_1045 : (Jvm.Cond.methodLink "NamelessBoxModel" (16 : Nat) ({ cls := "NamelessBoxModel", name := "sets", desc := "(IJ)V" } : Jvm.MethodName)) ∈ cx_G := cx_t5 85 (by decide +kernel) rfl
theorem hw_1047 : (Jvm.Cond.instanceMethod ({ cls := "NamelessBoxModel", name := "sets", desc := "(IJ)V" } : Jvm.MethodName)) ∈ cx_G := cx_t5 87 (by decide +kernel) rfl
theorem hw_1048 : (Jvm.Cond.code ({ cls := "NamelessBoxModel", name := "sets", desc := "(IJ)V" } : Jvm.MethodName) prog_11_method_4_code (5 : Nat) (Option.none : Option Jvm.ClassFile.FieldType)) ∈ cx_G := cx_t5 88 (by decide +kernel) rfl
theorem hw_1049 : (Jvm.Cond.constantLong "NamelessBoxModel" (10 : Nat) (1073741823 : Int64)) ∈ cx_G := cx_t5 89 (by decide +kernel) rfl
theorem hw_1050 : (Jvm.Cond.methodLink "NamelessBoxModel" (12 : Nat) ({ cls := "NamelessBoxModel", name := "trims", desc := "(I)V" } : Jvm.MethodName)) ∈ cx_G := cx_t5 90 (by decide +kernel) rfl
theorem hw_1052 : (Jvm.Cond.instanceMethod ({ cls := "NamelessBoxModel", name := "trims", desc := "(I)V" } : Jvm.MethodName)) ∈ cx_G := cx_t5 92 (by decide +kernel) rfl
theorem hw_1053 : (Jvm.Cond.code ({ cls := "NamelessBoxModel", name := "trims", desc := "(I)V" } : Jvm.MethodName) prog_11_method_3_code (2 : Nat) (Option.none : Option Jvm.ClassFile.FieldType)) ∈ cx_G := cx_t5 93 (by decide +kernel) rfl
theorem hw_1054 : (Jvm.Cond.fieldLink "NamelessBoxModel" (7 : Nat) "NamelessBoxModel" "limbs" "[I") ∈ cx_G := cx_t5 94 (by decide +kernel) rfl
theorem hw_1055 : (Jvm.Cond.fieldLink "NamelessBoxModel" (3 : Nat) "NamelessBoxModel" "wide" "[I") ∈ cx_G := cx_t5 95 (by decide +kernel) rfl
theorem hw_1056 : (Jvm.Cond.fieldLink "NamelessBoxModel" (51 : Nat) "NamelessBoxModel" "book" "[I") ∈ cx_G := cx_t5 96 (by decide +kernel) rfl
theorem hw_1057 : (Jvm.Cond.fieldLink "NamelessBoxModel" (54 : Nat) "NamelessBoxModel" "images" "[I") ∈ cx_G := cx_t5 97 (by decide +kernel) rfl
theorem hw_1058 : (Jvm.Cond.fieldLink "NamelessBoxModel" (57 : Nat) "NamelessBoxModel" "kept" "[Z") ∈ cx_G := cx_t5 98 (by decide +kernel) rfl
theorem hw_1059 : (Jvm.Cond.fieldLink "NamelessBoxModel" (61 : Nat) "NamelessBoxModel" "before" "[I") ∈ cx_G := cx_t5 99 (by decide +kernel) rfl
theorem hw_1060 : (Jvm.Cond.fieldLink "NamelessBoxModel" (64 : Nat) "NamelessBoxModel" "refused" "[I") ∈ cx_G := cx_t5 100 (by decide +kernel) rfl
theorem hw_1061 : (Jvm.Cond.fieldLink "NamelessBoxModel" (82 : Nat) "NamelessBoxModel" "quiet" "Z") ∈ cx_G := cx_t5 101 (by decide +kernel) rfl
theorem hw_1062 : (Jvm.Cond.fieldLink "NamelessBoxModel" (67 : Nat) "NamelessBoxModel" "text" "[I") ∈ cx_G := cx_t5 102 (by decide +kernel) rfl
theorem hw_1063 : (Jvm.Cond.fieldLink "NamelessBoxModel" (144 : Nat) "NamelessBoxModel" "typed" "I") ∈ cx_G := cx_t5 103 (by decide +kernel) rfl
theorem hw_1064 : (Jvm.Cond.fieldLink "NamelessBoxModel" (150 : Nat) "NamelessBoxModel" "at" "I") ∈ cx_G := cx_t5 104 (by decide +kernel) rfl
theorem hw_1065 : (Jvm.Cond.fieldLink "NamelessBoxModel" (173 : Nat) "NamelessBoxModel" "start" "I") ∈ cx_G := cx_t5 105 (by decide +kernel) rfl
theorem hw_1066 : (Jvm.Cond.fieldLink "NamelessBoxModel" (176 : Nat) "NamelessBoxModel" "token" "I") ∈ cx_G := cx_t5 106 (by decide +kernel) rfl
theorem hw_1067 : (Jvm.Cond.fieldLink "NamelessBoxModel" (187 : Nat) "NamelessBoxModel" "value" "I") ∈ cx_G := cx_t5 107 (by decide +kernel) rfl
theorem hw_1068 : (Jvm.Cond.fieldLink "NamelessBoxModel" (70 : Nat) "NamelessBoxModel" "items" "[I") ∈ cx_G := cx_t5 108 (by decide +kernel) rfl
theorem hw_1069 : (Jvm.Cond.fieldLink "NamelessBoxModel" (190 : Nat) "NamelessBoxModel" "many" "I") ∈ cx_G := cx_t5 109 (by decide +kernel) rfl
theorem hw_1070 : (Jvm.Cond.fieldLink "NamelessBoxModel" (73 : Nat) "NamelessBoxModel" "is" "[I") ∈ cx_G := cx_t5 110 (by decide +kernel) rfl
theorem hw_1071 : (Jvm.Cond.fieldLink "NamelessBoxModel" (76 : Nat) "NamelessBoxModel" "likes" "[I") ∈ cx_G := cx_t5 111 (by decide +kernel) rfl
theorem hw_1072 : (Jvm.Cond.fieldLink "NamelessBoxModel" (232 : Nat) "NamelessBoxModel" "without" "I") ∈ cx_G := cx_t5 112 (by decide +kernel) rfl
theorem hw_1073 : (Jvm.Cond.fieldLink "NamelessBoxModel" (235 : Nat) "NamelessBoxModel" "onePicture" "I") ∈ cx_G := cx_t5 113 (by decide +kernel) rfl
theorem hw_1074 : (Jvm.Cond.fieldLink "NamelessBoxModel" (256 : Nat) "NamelessBoxModel" "oneYear" "I") ∈ cx_G := cx_t5 114 (by decide +kernel) rfl
theorem hw_1075 : (Jvm.Cond.fieldLink "NamelessBoxModel" (238 : Nat) "NamelessBoxModel" "first" "I") ∈ cx_G := cx_t5 115 (by decide +kernel) rfl
theorem hw_1076 : (Jvm.Cond.fieldLink "NamelessBoxModel" (250 : Nat) "NamelessBoxModel" "second" "I") ∈ cx_G := cx_t5 116 (by decide +kernel) rfl
theorem hw_1077 : (Jvm.Cond.fieldLink "NamelessBoxModel" (79 : Nat) "NamelessBoxModel" "names" "[I") ∈ cx_G := cx_t5 117 (by decide +kernel) rfl
theorem hw_1127 : (Jvm.Cond.methodLink "NamelessBoxLaw" (17 : Nat) ({ cls := "NamelessBoxModel", name := "person", desc := "(IIII)I" } : Jvm.MethodName)) ∈ cx_G := cx_t5 167 (by decide +kernel) rfl
theorem hw_1128 : (Jvm.Cond.instanceMethod ({ cls := "NamelessBoxModel", name := "person", desc := "(IIII)I" } : Jvm.MethodName)) ∈ cx_G := cx_t5 168 (by decide +kernel) rfl
theorem hw_1129 : (Jvm.Cond.selects "NamelessBoxModel" ({ cls := "NamelessBoxModel", name := "person", desc := "(IIII)I" } : Jvm.MethodName) ({ cls := "NamelessBoxModel", name := "person", desc := "(IIII)I" } : Jvm.MethodName)) ∈ cx_G := cx_t5 169 (by decide +kernel) rfl
theorem hw_1130 : (Jvm.Cond.code ({ cls := "NamelessBoxModel", name := "person", desc := "(IIII)I" } : Jvm.MethodName) prog_11_method_26_code (6 : Nat) (Option.some Jvm.ClassFile.FieldType.int)) ∈ cx_G := cx_t5 170 (by decide +kernel) rfl
theorem hw_1131 : (Jvm.Cond.constantLong "NamelessBoxModel" (93 : Nat) (99 : Int64)) ∈ cx_G := cx_t5 171 (by decide +kernel) rfl
theorem hw_1132 : (Jvm.Cond.methodLink "NamelessBoxModel" (89 : Nat) ({ cls := "NamelessBoxModel", name := "in", desc := "(JJJ)Z" } : Jvm.MethodName)) ∈ cx_G := cx_t5 172 (by decide +kernel) rfl
theorem hw_1133 : (Jvm.Cond.static ({ cls := "NamelessBoxModel", name := "in", desc := "(JJJ)Z" } : Jvm.MethodName)) ∈ cx_G := cx_t5 173 (by decide +kernel) rfl
theorem hw_1134 : (Jvm.Cond.code ({ cls := "NamelessBoxModel", name := "in", desc := "(JJJ)Z" } : Jvm.MethodName) prog_11_method_2_code (6 : Nat) (Option.some Jvm.ClassFile.FieldType.boolean)) ∈ cx_G := cx_t5 174 (by decide +kernel) rfl
theorem hw_1135 : (Jvm.Cond.constantLong "NamelessBoxModel" (95 : Nat) (100 : Int64)) ∈ cx_G := cx_t5 175 (by decide +kernel) rfl
theorem hw_1136 : (Jvm.Cond.constantLong "NamelessBoxModel" (97 : Nat) (15 : Int64)) ∈ cx_G := cx_t5 176 (by decide +kernel) rfl
theorem hw_1137 : (Jvm.Cond.methodLink "NamelessBoxModel" (99 : Nat) ({ cls := "NamelessBoxModel", name := "bad", desc := "()I" } : Jvm.MethodName)) ∈ cx_G := cx_t5 177 (by decide +kernel) rfl
theorem hw_1139 : (Jvm.Cond.instanceMethod ({ cls := "NamelessBoxModel", name := "bad", desc := "()I" } : Jvm.MethodName)) ∈ cx_G := cx_t5 179 (by decide +kernel) rfl
theorem hw_1140 : (Jvm.Cond.code ({ cls := "NamelessBoxModel", name := "bad", desc := "()I" } : Jvm.MethodName) prog_11_method_18_code (1 : Nat) (Option.some Jvm.ClassFile.FieldType.int)) ∈ cx_G := cx_t5 180 (by decide +kernel) rfl
theorem hw_1141 : (Jvm.Cond.methodLink "NamelessBoxModel" (86 : Nat) ({ cls := "NamelessBoxModel", name := "refuses", desc := "(II)I" } : Jvm.MethodName)) ∈ cx_G := cx_t5 181 (by decide +kernel) rfl
theorem hw_1143 : (Jvm.Cond.instanceMethod ({ cls := "NamelessBoxModel", name := "refuses", desc := "(II)I" } : Jvm.MethodName)) ∈ cx_G := cx_t5 183 (by decide +kernel) rfl
theorem hw_1144 : (Jvm.Cond.code ({ cls := "NamelessBoxModel", name := "refuses", desc := "(II)I" } : Jvm.MethodName) prog_11_method_17_code (3 : Nat) (Option.some Jvm.ClassFile.FieldType.int)) ∈ cx_G := cx_t5 184 (by decide +kernel) rfl
theorem hw_1145 : (Jvm.Cond.methodLink "NamelessBoxModel" (103 : Nat) ({ cls := "NamelessBoxModel", name := "full", desc := "()I" } : Jvm.MethodName)) ∈ cx_G := cx_t5 185 (by decide +kernel) rfl
theorem hw_1147 : (Jvm.Cond.instanceMethod ({ cls := "NamelessBoxModel", name := "full", desc := "()I" } : Jvm.MethodName)) ∈ cx_G := cx_t5 187 (by decide +kernel) rfl
theorem hw_1148 : (Jvm.Cond.code ({ cls := "NamelessBoxModel", name := "full", desc := "()I" } : Jvm.MethodName) prog_11_method_20_code (1 : Nat) (Option.some Jvm.ClassFile.FieldType.int)) ∈ cx_G := cx_t5 188 (by decide +kernel) rfl
theorem hw_1149 : (Jvm.Cond.methodLink "NamelessBoxLaw" (22 : Nat) ({ cls := "NamelessBoxModel", name := "parent", desc := "(II)I" } : Jvm.MethodName)) ∈ cx_G := cx_t5 189 (by decide +kernel) rfl
theorem hw_1150 : (Jvm.Cond.instanceMethod ({ cls := "NamelessBoxModel", name := "parent", desc := "(II)I" } : Jvm.MethodName)) ∈ cx_G := cx_t5 190 (by decide +kernel) rfl
theorem hw_1151 : (Jvm.Cond.selects "NamelessBoxModel" ({ cls := "NamelessBoxModel", name := "parent", desc := "(II)I" } : Jvm.MethodName) ({ cls := "NamelessBoxModel", name := "parent", desc := "(II)I" } : Jvm.MethodName)) ∈ cx_G := cx_t5 191 (by decide +kernel) rfl
theorem hw_1152 : (Jvm.Cond.code ({ cls := "NamelessBoxModel", name := "parent", desc := "(II)I" } : Jvm.MethodName) prog_11_method_27_code (5 : Nat) (Option.some Jvm.ClassFile.FieldType.int)) ∈ cx_G := cx_t5 192 (by decide +kernel) rfl
theorem hw_1153 : (Jvm.Cond.methodLink "NamelessBoxModel" (106 : Nat) ({ cls := "NamelessBoxModel", name := "isPerson", desc := "(I)Z" } : Jvm.MethodName)) ∈ cx_G := cx_t5 193 (by decide +kernel) rfl
theorem hw_1155 : (Jvm.Cond.instanceMethod ({ cls := "NamelessBoxModel", name := "isPerson", desc := "(I)Z" } : Jvm.MethodName)) ∈ cx_G := cx_t5 195 (by decide +kernel) rfl
theorem hw_1156 : (Jvm.Cond.code ({ cls := "NamelessBoxModel", name := "isPerson", desc := "(I)Z" } : Jvm.MethodName) prog_11_method_21_code (2 : Nat) (Option.some Jvm.ClassFile.FieldType.boolean)) ∈ cx_G := cx_t5 196 (by decide +kernel) rfl
theorem hw_1157 : (Jvm.Cond.methodLink "NamelessBoxModel" (109 : Nat) ({ cls := "NamelessBoxModel", name := "ofPerson", desc := "(II)I" } : Jvm.MethodName)) ∈ cx_G := cx_t5 197 (by decide +kernel) rfl
theorem hw_1159 : (Jvm.Cond.instanceMethod ({ cls := "NamelessBoxModel", name := "ofPerson", desc := "(II)I" } : Jvm.MethodName)) ∈ cx_G := cx_t5 199 (by decide +kernel) rfl
theorem hw_1160 : (Jvm.Cond.code ({ cls := "NamelessBoxModel", name := "ofPerson", desc := "(II)I" } : Jvm.MethodName) prog_11_method_24_code (3 : Nat) (Option.some Jvm.ClassFile.FieldType.int)) ∈ cx_G := cx_t5 200 (by decide +kernel) rfl
theorem hw_1161 : (Jvm.Cond.methodLink "NamelessBoxLaw" (26 : Nat) ({ cls := "NamelessBoxModel", name := "near", desc := "(II)I" } : Jvm.MethodName)) ∈ cx_G := cx_t5 201 (by decide +kernel) rfl
theorem hw_1162 : (Jvm.Cond.instanceMethod ({ cls := "NamelessBoxModel", name := "near", desc := "(II)I" } : Jvm.MethodName)) ∈ cx_G := cx_t5 202 (by decide +kernel) rfl
theorem hw_1163 : (Jvm.Cond.selects "NamelessBoxModel" ({ cls := "NamelessBoxModel", name := "near", desc := "(II)I" } : Jvm.MethodName) ({ cls := "NamelessBoxModel", name := "near", desc := "(II)I" } : Jvm.MethodName)) ∈ cx_G := cx_t5 203 (by decide +kernel) rfl
theorem hw_1164 : (Jvm.Cond.code ({ cls := "NamelessBoxModel", name := "near", desc := "(II)I" } : Jvm.MethodName) prog_11_method_28_code (4 : Nat) (Option.some Jvm.ClassFile.FieldType.int)) ∈ cx_G := cx_t5 204 (by decide +kernel) rfl
theorem hw_1165 : (Jvm.Cond.constantLong "NamelessBoxModel" (112 : Nat) (4 : Int64)) ∈ cx_G := cx_t5 205 (by decide +kernel) rfl
theorem hw_1166 : (Jvm.Cond.methodLink "NamelessBoxLaw" (30 : Nat) ({ cls := "NamelessBoxModel", name := "picture", desc := "(II)I" } : Jvm.MethodName)) ∈ cx_G := cx_t5 206 (by decide +kernel) rfl
theorem hw_1167 : (Jvm.Cond.instanceMethod ({ cls := "NamelessBoxModel", name := "picture", desc := "(II)I" } : Jvm.MethodName)) ∈ cx_G := cx_t5 207 (by decide +kernel) rfl
theorem hw_1168 : (Jvm.Cond.selects "NamelessBoxModel" ({ cls := "NamelessBoxModel", name := "picture", desc := "(II)I" } : Jvm.MethodName) ({ cls := "NamelessBoxModel", name := "picture", desc := "(II)I" } : Jvm.MethodName)) ∈ cx_G := cx_t5 208 (by decide +kernel) rfl
theorem hw_1169 : (Jvm.Cond.code ({ cls := "NamelessBoxModel", name := "picture", desc := "(II)I" } : Jvm.MethodName) prog_11_method_29_code (3 : Nat) (Option.some Jvm.ClassFile.FieldType.int)) ∈ cx_G := cx_t5 209 (by decide +kernel) rfl
theorem hw_1170 : (Jvm.Cond.methodLink "NamelessBoxLaw" (35 : Nat) ({ cls := "NamelessBoxModel", name := "head", desc := "(IIIII)I" } : Jvm.MethodName)) ∈ cx_G := cx_t5 210 (by decide +kernel) rfl
theorem hw_1171 : (Jvm.Cond.instanceMethod ({ cls := "NamelessBoxModel", name := "head", desc := "(IIIII)I" } : Jvm.MethodName)) ∈ cx_G := cx_t5 211 (by decide +kernel) rfl
theorem hw_1172 : (Jvm.Cond.selects "NamelessBoxModel" ({ cls := "NamelessBoxModel", name := "head", desc := "(IIIII)I" } : Jvm.MethodName) ({ cls := "NamelessBoxModel", name := "head", desc := "(IIIII)I" } : Jvm.MethodName)) ∈ cx_G := cx_t5 212 (by decide +kernel) rfl
theorem hw_1173 : (Jvm.Cond.code ({ cls := "NamelessBoxModel", name := "head", desc := "(IIIII)I" } : Jvm.MethodName) prog_11_method_30_code (7 : Nat) (Option.some Jvm.ClassFile.FieldType.int)) ∈ cx_G := cx_t5 213 (by decide +kernel) rfl
theorem hw_1174 : (Jvm.Cond.methodLink "NamelessBoxModel" (114 : Nat) ({ cls := "NamelessBoxModel", name := "isPicture", desc := "(I)Z" } : Jvm.MethodName)) ∈ cx_G := cx_t5 214 (by decide +kernel) rfl
theorem hw_1176 : (Jvm.Cond.instanceMethod ({ cls := "NamelessBoxModel", name := "isPicture", desc := "(I)Z" } : Jvm.MethodName)) ∈ cx_G := cx_t5 216 (by decide +kernel) rfl
theorem hw_1177 : (Jvm.Cond.code ({ cls := "NamelessBoxModel", name := "isPicture", desc := "(I)Z" } : Jvm.MethodName) prog_11_method_22_code (2 : Nat) (Option.some Jvm.ClassFile.FieldType.boolean)) ∈ cx_G := cx_t5 217 (by decide +kernel) rfl
theorem hw_1178 : (Jvm.Cond.methodLink "NamelessBoxLaw" (39 : Nat) ({ cls := "NamelessBoxModel", name := "name", desc := "(IIII)I" } : Jvm.MethodName)) ∈ cx_G := cx_t5 218 (by decide +kernel) rfl
theorem hw_1179 : (Jvm.Cond.instanceMethod ({ cls := "NamelessBoxModel", name := "name", desc := "(IIII)I" } : Jvm.MethodName)) ∈ cx_G := cx_t5 219 (by decide +kernel) rfl
theorem hw_1180 : (Jvm.Cond.selects "NamelessBoxModel" ({ cls := "NamelessBoxModel", name := "name", desc := "(IIII)I" } : Jvm.MethodName) ({ cls := "NamelessBoxModel", name := "name", desc := "(IIII)I" } : Jvm.MethodName)) ∈ cx_G := cx_t5 220 (by decide +kernel) rfl
theorem hw_1181 : (Jvm.Cond.code ({ cls := "NamelessBoxModel", name := "name", desc := "(IIII)I" } : Jvm.MethodName) prog_11_method_31_code (6 : Nat) (Option.some Jvm.ClassFile.FieldType.int)) ∈ cx_G := cx_t5 221 (by decide +kernel) rfl
theorem hw_1182 : (Jvm.Cond.constantLong "NamelessBoxModel" (117 : Nat) (5 : Int64)) ∈ cx_G := cx_t5 222 (by decide +kernel) rfl
theorem hw_1183 : (Jvm.Cond.methodLink "NamelessBoxModel" (119 : Nat) ({ cls := "NamelessBoxModel", name := "isHead", desc := "(I)Z" } : Jvm.MethodName)) ∈ cx_G := cx_t5 223 (by decide +kernel) rfl
theorem hw_1185 : (Jvm.Cond.instanceMethod ({ cls := "NamelessBoxModel", name := "isHead", desc := "(I)Z" } : Jvm.MethodName)) ∈ cx_G := cx_t5 225 (by decide +kernel) rfl
theorem hw_1186 : (Jvm.Cond.code ({ cls := "NamelessBoxModel", name := "isHead", desc := "(I)Z" } : Jvm.MethodName) prog_11_method_23_code (2 : Nat) (Option.some Jvm.ClassFile.FieldType.boolean)) ∈ cx_G := cx_t5 226 (by decide +kernel) rfl
theorem hw_1187 : (Jvm.Cond.methodLink "NamelessBoxLaw" (44 : Nat) ({ cls := "NamelessBoxModel", name := "join", desc := "(III)I" } : Jvm.MethodName)) ∈ cx_G := cx_t5 227 (by decide +kernel) rfl
theorem hw_1188 : (Jvm.Cond.instanceMethod ({ cls := "NamelessBoxModel", name := "join", desc := "(III)I" } : Jvm.MethodName)) ∈ cx_G := cx_t5 228 (by decide +kernel) rfl
theorem hw_1189 : (Jvm.Cond.selects "NamelessBoxModel" ({ cls := "NamelessBoxModel", name := "join", desc := "(III)I" } : Jvm.MethodName) ({ cls := "NamelessBoxModel", name := "join", desc := "(III)I" } : Jvm.MethodName)) ∈ cx_G := cx_t5 229 (by decide +kernel) rfl
theorem hw_1190 : (Jvm.Cond.code ({ cls := "NamelessBoxModel", name := "join", desc := "(III)I" } : Jvm.MethodName) prog_11_method_32_code (5 : Nat) (Option.some Jvm.ClassFile.FieldType.int)) ∈ cx_G := cx_t5 230 (by decide +kernel) rfl
theorem hw_1191 : (Jvm.Cond.methodLink "NamelessBoxModel" (122 : Nat) ({ cls := "NamelessBoxModel", name := "ofHead", desc := "(II)I" } : Jvm.MethodName)) ∈ cx_G := cx_t5 231 (by decide +kernel) rfl
theorem hw_1193 : (Jvm.Cond.instanceMethod ({ cls := "NamelessBoxModel", name := "ofHead", desc := "(II)I" } : Jvm.MethodName)) ∈ cx_G := cx_t5 233 (by decide +kernel) rfl
theorem hw_1194 : (Jvm.Cond.code ({ cls := "NamelessBoxModel", name := "ofHead", desc := "(II)I" } : Jvm.MethodName) prog_11_method_25_code (3 : Nat) (Option.some Jvm.ClassFile.FieldType.int)) ∈ cx_G := cx_t5 234 (by decide +kernel) rfl
theorem hw_1195 : (Jvm.Cond.constantLong "NamelessBoxModel" (125 : Nat) (10 : Int64)) ∈ cx_G := cx_t5 235 (by decide +kernel) rfl
theorem hw_1196 : (Jvm.Cond.methodLink "NamelessBoxLaw" (49 : Nat) ({ cls := "NamelessBoxModel", name := "strange", desc := "(I)I" } : Jvm.MethodName)) ∈ cx_G := cx_t5 236 (by decide +kernel) rfl
theorem hw_1197 : (Jvm.Cond.instanceMethod ({ cls := "NamelessBoxModel", name := "strange", desc := "(I)I" } : Jvm.MethodName)) ∈ cx_G := cx_t5 237 (by decide +kernel) rfl
theorem hw_1198 : (Jvm.Cond.selects "NamelessBoxModel" ({ cls := "NamelessBoxModel", name := "strange", desc := "(I)I" } : Jvm.MethodName) ({ cls := "NamelessBoxModel", name := "strange", desc := "(I)I" } : Jvm.MethodName)) ∈ cx_G := cx_t5 238 (by decide +kernel) rfl
theorem hw_1199 : (Jvm.Cond.code ({ cls := "NamelessBoxModel", name := "strange", desc := "(I)I" } : Jvm.MethodName) prog_11_method_33_code (3 : Nat) (Option.some Jvm.ClassFile.FieldType.int)) ∈ cx_G := cx_t5 239 (by decide +kernel) rfl
theorem hw_1200 : (Jvm.Cond.constantLong "NamelessBoxModel" (127 : Nat) (9 : Int64)) ∈ cx_G := cx_t6 0 (by decide +kernel) rfl
theorem hw_1201 : (Jvm.Cond.methodLink "NamelessBoxLaw" (53 : Nat) ({ cls := "NamelessBoxModel", name := "mark", desc := "(II)I" } : Jvm.MethodName)) ∈ cx_G := cx_t6 1 (by decide +kernel) rfl
theorem hw_1202 : (Jvm.Cond.instanceMethod ({ cls := "NamelessBoxModel", name := "mark", desc := "(II)I" } : Jvm.MethodName)) ∈ cx_G := cx_t6 2 (by decide +kernel) rfl
theorem hw_1203 : (Jvm.Cond.selects "NamelessBoxModel" ({ cls := "NamelessBoxModel", name := "mark", desc := "(II)I" } : Jvm.MethodName) ({ cls := "NamelessBoxModel", name := "mark", desc := "(II)I" } : Jvm.MethodName)) ∈ cx_G := cx_t6 3 (by decide +kernel) rfl
theorem hw_1204 : (Jvm.Cond.code ({ cls := "NamelessBoxModel", name := "mark", desc := "(II)I" } : Jvm.MethodName) prog_11_method_35_code (3 : Nat) (Option.some Jvm.ClassFile.FieldType.int)) ∈ cx_G := cx_t6 4 (by decide +kernel) rfl
theorem hw_1205 : (Jvm.Cond.constantLong "NamelessBoxModel" (129 : Nat) (3 : Int64)) ∈ cx_G := cx_t6 5 (by decide +kernel) rfl
theorem hw_1206 : (Jvm.Cond.methodLink "NamelessBoxModel" (131 : Nat) ({ cls := "NamelessBoxModel", name := "markOf", desc := "(II)I" } : Jvm.MethodName)) ∈ cx_G := cx_t6 6 (by decide +kernel) rfl
theorem hw_1208 : (Jvm.Cond.instanceMethod ({ cls := "NamelessBoxModel", name := "markOf", desc := "(II)I" } : Jvm.MethodName)) ∈ cx_G := cx_t6 8 (by decide +kernel) rfl
theorem hw_1209 : (Jvm.Cond.code ({ cls := "NamelessBoxModel", name := "markOf", desc := "(II)I" } : Jvm.MethodName) prog_11_method_34_code (4 : Nat) (Option.some Jvm.ClassFile.FieldType.int)) ∈ cx_G := cx_t6 9 (by decide +kernel) rfl
theorem hw_1210 : (Jvm.Cond.methodLink "NamelessBoxLaw" (57 : Nat) ({ cls := "NamelessBoxModel", name := "like", desc := "(III)I" } : Jvm.MethodName)) ∈ cx_G := cx_t6 10 (by decide +kernel) rfl
theorem hw_1211 : (Jvm.Cond.instanceMethod ({ cls := "NamelessBoxModel", name := "like", desc := "(III)I" } : Jvm.MethodName)) ∈ cx_G := cx_t6 11 (by decide +kernel) rfl
theorem hw_1212 : (Jvm.Cond.selects "NamelessBoxModel" ({ cls := "NamelessBoxModel", name := "like", desc := "(III)I" } : Jvm.MethodName) ({ cls := "NamelessBoxModel", name := "like", desc := "(III)I" } : Jvm.MethodName)) ∈ cx_G := cx_t6 12 (by decide +kernel) rfl
theorem hw_1213 : (Jvm.Cond.code ({ cls := "NamelessBoxModel", name := "like", desc := "(III)I" } : Jvm.MethodName) prog_11_method_37_code (4 : Nat) (Option.some Jvm.ClassFile.FieldType.int)) ∈ cx_G := cx_t6 13 (by decide +kernel) rfl
theorem hw_1214 : (Jvm.Cond.methodLink "NamelessBoxModel" (134 : Nat) ({ cls := "NamelessBoxModel", name := "likeOf", desc := "(III)I" } : Jvm.MethodName)) ∈ cx_G := cx_t6 14 (by decide +kernel) rfl
theorem hw_1216 : (Jvm.Cond.instanceMethod ({ cls := "NamelessBoxModel", name := "likeOf", desc := "(III)I" } : Jvm.MethodName)) ∈ cx_G := cx_t6 16 (by decide +kernel) rfl
theorem hw_1217 : (Jvm.Cond.code ({ cls := "NamelessBoxModel", name := "likeOf", desc := "(III)I" } : Jvm.MethodName) prog_11_method_36_code (8 : Nat) (Option.some Jvm.ClassFile.FieldType.int)) ∈ cx_G := cx_t6 17 (by decide +kernel) rfl
theorem hw_1218 : (Jvm.Cond.methodLink "NamelessBoxLaw" (61 : Nat) ({ cls := "NamelessBoxModel", name := "truth", desc := "(I)I" } : Jvm.MethodName)) ∈ cx_G := cx_t6 18 (by decide +kernel) rfl
theorem hw_1219 : (Jvm.Cond.instanceMethod ({ cls := "NamelessBoxModel", name := "truth", desc := "(I)I" } : Jvm.MethodName)) ∈ cx_G := cx_t6 19 (by decide +kernel) rfl
theorem hw_1220 : (Jvm.Cond.selects "NamelessBoxModel" ({ cls := "NamelessBoxModel", name := "truth", desc := "(I)I" } : Jvm.MethodName) ({ cls := "NamelessBoxModel", name := "truth", desc := "(I)I" } : Jvm.MethodName)) ∈ cx_G := cx_t6 20 (by decide +kernel) rfl
theorem hw_1221 : (Jvm.Cond.code ({ cls := "NamelessBoxModel", name := "truth", desc := "(I)I" } : Jvm.MethodName) prog_11_method_39_code (2 : Nat) (Option.some Jvm.ClassFile.FieldType.int)) ∈ cx_G := cx_t6 21 (by decide +kernel) rfl
theorem hw_1222 : (Jvm.Cond.methodLink "NamelessBoxModel" (138 : Nat) ({ cls := "NamelessBoxModel", name := "truthOf", desc := "(I)I" } : Jvm.MethodName)) ∈ cx_G := cx_t6 22 (by decide +kernel) rfl
theorem hw_1224 : (Jvm.Cond.instanceMethod ({ cls := "NamelessBoxModel", name := "truthOf", desc := "(I)I" } : Jvm.MethodName)) ∈ cx_G := cx_t6 24 (by decide +kernel) rfl
theorem hw_1225 : (Jvm.Cond.code ({ cls := "NamelessBoxModel", name := "truthOf", desc := "(I)I" } : Jvm.MethodName) prog_11_method_38_code (4 : Nat) (Option.some Jvm.ClassFile.FieldType.int)) ∈ cx_G := cx_t6 25 (by decide +kernel) rfl
theorem hw_1226 : (Jvm.Cond.methodLink "NamelessBoxLaw" (68 : Nat) ({ cls := "NamelessBoxModel", name := "type", desc := "(JI)I" } : Jvm.MethodName)) ∈ cx_G := cx_t6 26 (by decide +kernel) rfl
theorem hw_1227 : (Jvm.Cond.instanceMethod ({ cls := "NamelessBoxModel", name := "type", desc := "(JI)I" } : Jvm.MethodName)) ∈ cx_G := cx_t6 27 (by decide +kernel) rfl
theorem hw_1228 : (Jvm.Cond.selects "NamelessBoxModel" ({ cls := "NamelessBoxModel", name := "type", desc := "(JI)I" } : Jvm.MethodName) ({ cls := "NamelessBoxModel", name := "type", desc := "(JI)I" } : Jvm.MethodName)) ∈ cx_G := cx_t6 28 (by decide +kernel) rfl
theorem hw_1229 : (Jvm.Cond.code ({ cls := "NamelessBoxModel", name := "type", desc := "(JI)I" } : Jvm.MethodName) prog_11_method_40_code (5 : Nat) (Option.some Jvm.ClassFile.FieldType.int)) ∈ cx_G := cx_t6 29 (by decide +kernel) rfl
theorem hw_1230 : (Jvm.Cond.constantLong "NamelessBoxModel" (142 : Nat) (8 : Int64)) ∈ cx_G := cx_t6 30 (by decide +kernel) rfl
theorem hw_1231 : (Jvm.Cond.constantLong "NamelessBoxModel" (148 : Nat) (255 : Int64)) ∈ cx_G := cx_t6 31 (by decide +kernel) rfl
theorem hw_1232 : (Jvm.Cond.methodLink "NamelessBoxLaw" (73 : Nat) ({ cls := "NamelessBoxModel", name := "clear", desc := "()I" } : Jvm.MethodName)) ∈ cx_G := cx_t6 32 (by decide +kernel) rfl
theorem hw_1233 : (Jvm.Cond.instanceMethod ({ cls := "NamelessBoxModel", name := "clear", desc := "()I" } : Jvm.MethodName)) ∈ cx_G := cx_t6 33 (by decide +kernel) rfl
theorem hw_1234 : (Jvm.Cond.selects "NamelessBoxModel" ({ cls := "NamelessBoxModel", name := "clear", desc := "()I" } : Jvm.MethodName) ({ cls := "NamelessBoxModel", name := "clear", desc := "()I" } : Jvm.MethodName)) ∈ cx_G := cx_t6 34 (by decide +kernel) rfl
theorem hw_1235 : (Jvm.Cond.code ({ cls := "NamelessBoxModel", name := "clear", desc := "()I" } : Jvm.MethodName) prog_11_method_41_code (2 : Nat) (Option.some Jvm.ClassFile.FieldType.int)) ∈ cx_G := cx_t6 35 (by decide +kernel) rfl
theorem hw_1236 : (Jvm.Cond.methodLink "NamelessBoxLaw" (77 : Nat) ({ cls := "NamelessBoxModel", name := "read", desc := "()I" } : Jvm.MethodName)) ∈ cx_G := cx_t6 36 (by decide +kernel) rfl
theorem hw_1237 : (Jvm.Cond.instanceMethod ({ cls := "NamelessBoxModel", name := "read", desc := "()I" } : Jvm.MethodName)) ∈ cx_G := cx_t6 37 (by decide +kernel) rfl
theorem hw_1238 : (Jvm.Cond.selects "NamelessBoxModel" ({ cls := "NamelessBoxModel", name := "read", desc := "()I" } : Jvm.MethodName) ({ cls := "NamelessBoxModel", name := "read", desc := "()I" } : Jvm.MethodName)) ∈ cx_G := cx_t6 38 (by decide +kernel) rfl
theorem hw_1239 : (Jvm.Cond.code ({ cls := "NamelessBoxModel", name := "read", desc := "()I" } : Jvm.MethodName) prog_11_method_48_code (3 : Nat) (Option.some Jvm.ClassFile.FieldType.int)) ∈ cx_G := cx_t6 39 (by decide +kernel) rfl
theorem hw_1240 : (Jvm.Cond.methodLink "NamelessBoxModel" (225 : Nat) ({ cls := "NamelessBoxModel", name := "reads", desc := "()Z" } : Jvm.MethodName)) ∈ cx_G := cx_t6 40 (by decide +kernel) rfl
theorem hw_1242 : (Jvm.Cond.instanceMethod ({ cls := "NamelessBoxModel", name := "reads", desc := "()Z" } : Jvm.MethodName)) ∈ cx_G := cx_t6 42 (by decide +kernel) rfl
theorem hw_1243 : (Jvm.Cond.code ({ cls := "NamelessBoxModel", name := "reads", desc := "()Z" } : Jvm.MethodName) prog_11_method_46_code (3 : Nat) (Option.some Jvm.ClassFile.FieldType.boolean)) ∈ cx_G := cx_t6 43 (by decide +kernel) rfl
theorem hw_1244 : (Jvm.Cond.methodLink "NamelessBoxModel" (193 : Nat) ({ cls := "NamelessBoxModel", name := "scans", desc := "()V" } : Jvm.MethodName)) ∈ cx_G := cx_t6 44 (by decide +kernel) rfl
theorem hw_1246 : (Jvm.Cond.instanceMethod ({ cls := "NamelessBoxModel", name := "scans", desc := "()V" } : Jvm.MethodName)) ∈ cx_G := cx_t6 46 (by decide +kernel) rfl
theorem hw_1247 : (Jvm.Cond.code ({ cls := "NamelessBoxModel", name := "scans", desc := "()V" } : Jvm.MethodName) prog_11_method_44_code (3 : Nat) (Option.none : Option Jvm.ClassFile.FieldType)) ∈ cx_G := cx_t6 47 (by decide +kernel) rfl
theorem hw_1248 : (Jvm.Cond.methodLink "NamelessBoxModel" (169 : Nat) ({ cls := "NamelessBoxModel", name := "isAt", desc := "(II)Z" } : Jvm.MethodName)) ∈ cx_G := cx_t6 48 (by decide +kernel) rfl
theorem hw_1250 : (Jvm.Cond.instanceMethod ({ cls := "NamelessBoxModel", name := "isAt", desc := "(II)Z" } : Jvm.MethodName)) ∈ cx_G := cx_t6 50 (by decide +kernel) rfl
theorem hw_1251 : (Jvm.Cond.code ({ cls := "NamelessBoxModel", name := "isAt", desc := "(II)Z" } : Jvm.MethodName) prog_11_method_42_code (3 : Nat) (Option.some Jvm.ClassFile.FieldType.boolean)) ∈ cx_G := cx_t6 51 (by decide +kernel) rfl
theorem hw_1252 : (Jvm.Cond.constantLong "NamelessBoxModel" (179 : Nat) (32 : Int64)) ∈ cx_G := cx_t6 52 (by decide +kernel) rfl
theorem hw_1253 : (Jvm.Cond.constantLong "NamelessBoxModel" (181 : Nat) (97 : Int64)) ∈ cx_G := cx_t6 53 (by decide +kernel) rfl
theorem hw_1254 : (Jvm.Cond.methodLink "NamelessBoxModel" (183 : Nat) ({ cls := "NamelessBoxModel", name := "verbOf", desc := "(J)I" } : Jvm.MethodName)) ∈ cx_G := cx_t6 54 (by decide +kernel) rfl
theorem hw_1255 : (Jvm.Cond.static ({ cls := "NamelessBoxModel", name := "verbOf", desc := "(J)I" } : Jvm.MethodName)) ∈ cx_G := cx_t6 55 (by decide +kernel) rfl
theorem hw_1256 : (Jvm.Cond.code ({ cls := "NamelessBoxModel", name := "verbOf", desc := "(J)I" } : Jvm.MethodName) prog_11_method_43_code (4 : Nat) (Option.some Jvm.ClassFile.FieldType.int)) ∈ cx_G := cx_t6 56 (by decide +kernel) rfl
theorem hw_1257 : (Jvm.Cond.constantLong "NamelessBoxModel" (153 : Nat) (542723566 : Int64)) ∈ cx_G := cx_t6 57 (by decide +kernel) rfl
theorem hw_1258 : (Jvm.Cond.constantLong "NamelessBoxModel" (155 : Nat) (538514900 : Int64)) ∈ cx_G := cx_t6 58 (by decide +kernel) rfl
theorem hw_1259 : (Jvm.Cond.constantLong "NamelessBoxModel" (157 : Nat) (463922 : Int64)) ∈ cx_G := cx_t6 59 (by decide +kernel) rfl
theorem hw_1260 : (Jvm.Cond.constantLong "NamelessBoxModel" (159 : Nat) (17485682245 : Int64)) ∈ cx_G := cx_t6 60 (by decide +kernel) rfl
theorem hw_1261 : (Jvm.Cond.constantLong "NamelessBoxModel" (161 : Nat) (267300 : Int64)) ∈ cx_G := cx_t6 61 (by decide +kernel) rfl
theorem hw_1262 : (Jvm.Cond.constantLong "NamelessBoxModel" (163 : Nat) (460197 : Int64)) ∈ cx_G := cx_t6 62 (by decide +kernel) rfl
theorem hw_1263 : (Jvm.Cond.constantLong "NamelessBoxModel" (165 : Nat) (343342 : Int64)) ∈ cx_G := cx_t6 63 (by decide +kernel) rfl
theorem hw_1264 : (Jvm.Cond.constantLong "NamelessBoxModel" (167 : Nat) (21091104997 : Int64)) ∈ cx_G := cx_t6 64 (by decide +kernel) rfl
theorem hw_1265 : (Jvm.Cond.methodLink "NamelessBoxModel" (196 : Nat) ({ cls := "NamelessBoxModel", name := "numbers", desc := "(I)I" } : Jvm.MethodName)) ∈ cx_G := cx_t6 65 (by decide +kernel) rfl
theorem hw_1266 : (Jvm.Cond.static ({ cls := "NamelessBoxModel", name := "numbers", desc := "(I)I" } : Jvm.MethodName)) ∈ cx_G := cx_t6 66 (by decide +kernel) rfl
theorem hw_1267 : (Jvm.Cond.code ({ cls := "NamelessBoxModel", name := "numbers", desc := "(I)I" } : Jvm.MethodName) prog_11_method_45_code (1 : Nat) (Option.some Jvm.ClassFile.FieldType.int)) ∈ cx_G := cx_t6 67 (by decide +kernel) rfl
theorem hw_1268 : (Jvm.Cond.methodLink "NamelessBoxModel" (229 : Nat) ({ cls := "NamelessBoxModel", name := "tellsItem", desc := "(I)Z" } : Jvm.MethodName)) ∈ cx_G := cx_t6 68 (by decide +kernel) rfl
theorem hw_1270 : (Jvm.Cond.instanceMethod ({ cls := "NamelessBoxModel", name := "tellsItem", desc := "(I)Z" } : Jvm.MethodName)) ∈ cx_G := cx_t6 70 (by decide +kernel) rfl
theorem hw_1271 : (Jvm.Cond.code ({ cls := "NamelessBoxModel", name := "tellsItem", desc := "(I)Z" } : Jvm.MethodName) prog_11_method_47_code (8 : Nat) (Option.some Jvm.ClassFile.FieldType.boolean)) ∈ cx_G := cx_t6 71 (by decide +kernel) rfl
theorem hw_1272 : (Jvm.Cond.methodLink "NamelessBoxModel" (199 : Nat) ({ cls := "NamelessBoxModel", name := "person", desc := "(IIII)I" } : Jvm.MethodName)) ∈ cx_G := cx_t6 72 (by decide +kernel) rfl
theorem hw_1273 : (Jvm.Cond.methodLink "NamelessBoxModel" (203 : Nat) ({ cls := "NamelessBoxModel", name := "parent", desc := "(II)I" } : Jvm.MethodName)) ∈ cx_G := cx_t6 73 (by decide +kernel) rfl
theorem hw_1274 : (Jvm.Cond.methodLink "NamelessBoxModel" (206 : Nat) ({ cls := "NamelessBoxModel", name := "near", desc := "(II)I" } : Jvm.MethodName)) ∈ cx_G := cx_t6 74 (by decide +kernel) rfl
theorem hw_1275 : (Jvm.Cond.methodLink "NamelessBoxModel" (209 : Nat) ({ cls := "NamelessBoxModel", name := "picture", desc := "(II)I" } : Jvm.MethodName)) ∈ cx_G := cx_t6 75 (by decide +kernel) rfl
theorem hw_1276 : (Jvm.Cond.methodLink "NamelessBoxModel" (212 : Nat) ({ cls := "NamelessBoxModel", name := "head", desc := "(IIIII)I" } : Jvm.MethodName)) ∈ cx_G := cx_t6 76 (by decide +kernel) rfl
theorem hw_1277 : (Jvm.Cond.methodLink "NamelessBoxModel" (216 : Nat) ({ cls := "NamelessBoxModel", name := "name", desc := "(IIII)I" } : Jvm.MethodName)) ∈ cx_G := cx_t6 77 (by decide +kernel) rfl
theorem hw_1278 : (Jvm.Cond.methodLink "NamelessBoxModel" (219 : Nat) ({ cls := "NamelessBoxModel", name := "join", desc := "(III)I" } : Jvm.MethodName)) ∈ cx_G := cx_t6 78 (by decide +kernel) rfl
theorem hw_1279 : (Jvm.Cond.methodLink "NamelessBoxModel" (222 : Nat) ({ cls := "NamelessBoxModel", name := "strange", desc := "(I)I" } : Jvm.MethodName)) ∈ cx_G := cx_t6 79 (by decide +kernel) rfl
theorem hw_1280 : (Jvm.Cond.methodLink "NamelessBoxLaw" (81 : Nat) ({ cls := "NamelessBoxModel", name := "who", desc := "(II)I" } : Jvm.MethodName)) ∈ cx_G := cx_t6 80 (by decide +kernel) rfl
theorem hw_1281 : (Jvm.Cond.instanceMethod ({ cls := "NamelessBoxModel", name := "who", desc := "(II)I" } : Jvm.MethodName)) ∈ cx_G := cx_t6 81 (by decide +kernel) rfl
theorem hw_1282 : (Jvm.Cond.selects "NamelessBoxModel" ({ cls := "NamelessBoxModel", name := "who", desc := "(II)I" } : Jvm.MethodName) ({ cls := "NamelessBoxModel", name := "who", desc := "(II)I" } : Jvm.MethodName)) ∈ cx_G := cx_t6 82 (by decide +kernel) rfl
theorem hw_1283 : (Jvm.Cond.code ({ cls := "NamelessBoxModel", name := "who", desc := "(II)I" } : Jvm.MethodName) prog_11_method_63_code (3 : Nat) (Option.some Jvm.ClassFile.FieldType.int)) ∈ cx_G := cx_t6 83 (by decide +kernel) rfl
theorem hw_1284 : (Jvm.Cond.methodLink "NamelessBoxModel" (284 : Nat) ({ cls := "NamelessBoxModel", name := "begins", desc := "()V" } : Jvm.MethodName)) ∈ cx_G := cx_t6 84 (by decide +kernel) rfl
theorem hw_1286 : (Jvm.Cond.instanceMethod ({ cls := "NamelessBoxModel", name := "begins", desc := "()V" } : Jvm.MethodName)) ∈ cx_G := cx_t6 86 (by decide +kernel) rfl
theorem hw_1287 : (Jvm.Cond.code ({ cls := "NamelessBoxModel", name := "begins", desc := "()V" } : Jvm.MethodName) prog_11_method_50_code (5 : Nat) (Option.none : Option Jvm.ClassFile.FieldType)) ∈ cx_G := cx_t6 87 (by decide +kernel) rfl
theorem hw_1288 : (Jvm.Cond.methodLink "NamelessBoxModel" (287 : Nat) ({ cls := "NamelessBoxModel", name := "shares", desc := "(I)V" } : Jvm.MethodName)) ∈ cx_G := cx_t6 88 (by decide +kernel) rfl
theorem hw_1290 : (Jvm.Cond.instanceMethod ({ cls := "NamelessBoxModel", name := "shares", desc := "(I)V" } : Jvm.MethodName)) ∈ cx_G := cx_t6 90 (by decide +kernel) rfl
theorem hw_1291 : (Jvm.Cond.code ({ cls := "NamelessBoxModel", name := "shares", desc := "(I)V" } : Jvm.MethodName) prog_11_method_61_code (5 : Nat) (Option.none : Option Jvm.ClassFile.FieldType)) ∈ cx_G := cx_t6 91 (by decide +kernel) rfl
theorem hw_1292 : (Jvm.Cond.methodLink "NamelessBoxModel" (272 : Nat) ({ cls := "NamelessBoxModel", name := "ways", desc := "()I" } : Jvm.MethodName)) ∈ cx_G := cx_t6 92 (by decide +kernel) rfl
theorem hw_1294 : (Jvm.Cond.instanceMethod ({ cls := "NamelessBoxModel", name := "ways", desc := "()I" } : Jvm.MethodName)) ∈ cx_G := cx_t6 94 (by decide +kernel) rfl
theorem hw_1295 : (Jvm.Cond.code ({ cls := "NamelessBoxModel", name := "ways", desc := "()I" } : Jvm.MethodName) prog_11_method_49_code (3 : Nat) (Option.some Jvm.ClassFile.FieldType.int)) ∈ cx_G := cx_t6 95 (by decide +kernel) rfl
theorem hw_1296 : (Jvm.Cond.methodLink "NamelessBoxModel" (275 : Nat) ({ cls := "NamelessBoxModel", name := "weighs", desc := "(I)Z" } : Jvm.MethodName)) ∈ cx_G := cx_t6 96 (by decide +kernel) rfl
theorem hw_1298 : (Jvm.Cond.instanceMethod ({ cls := "NamelessBoxModel", name := "weighs", desc := "(I)Z" } : Jvm.MethodName)) ∈ cx_G := cx_t6 98 (by decide +kernel) rfl
theorem hw_1299 : (Jvm.Cond.code ({ cls := "NamelessBoxModel", name := "weighs", desc := "(I)Z" } : Jvm.MethodName) prog_11_method_56_code (8 : Nat) (Option.some Jvm.ClassFile.FieldType.boolean)) ∈ cx_G := cx_t6 99 (by decide +kernel) rfl
theorem hw_1300 : (Jvm.Cond.methodLink "NamelessBoxModel" (244 : Nat) ({ cls := "NamelessBoxModel", name := "picks", desc := "(I)V" } : Jvm.MethodName)) ∈ cx_G := cx_t6 100 (by decide +kernel) rfl
theorem hw_1302 : (Jvm.Cond.instanceMethod ({ cls := "NamelessBoxModel", name := "picks", desc := "(I)V" } : Jvm.MethodName)) ∈ cx_G := cx_t6 102 (by decide +kernel) rfl
theorem hw_1303 : (Jvm.Cond.code ({ cls := "NamelessBoxModel", name := "picks", desc := "(I)V" } : Jvm.MethodName) prog_11_method_51_code (5 : Nat) (Option.none : Option Jvm.ClassFile.FieldType)) ∈ cx_G := cx_t6 103 (by decide +kernel) rfl
theorem hw_1304 : (Jvm.Cond.methodLink "NamelessBoxModel" (247 : Nat) ({ cls := "NamelessBoxModel", name := "isTwice", desc := "()Z" } : Jvm.MethodName)) ∈ cx_G := cx_t6 104 (by decide +kernel) rfl
theorem hw_1306 : (Jvm.Cond.instanceMethod ({ cls := "NamelessBoxModel", name := "isTwice", desc := "()Z" } : Jvm.MethodName)) ∈ cx_G := cx_t6 106 (by decide +kernel) rfl
theorem hw_1307 : (Jvm.Cond.code ({ cls := "NamelessBoxModel", name := "isTwice", desc := "()Z" } : Jvm.MethodName) prog_11_method_54_code (4 : Nat) (Option.some Jvm.ClassFile.FieldType.boolean)) ∈ cx_G := cx_t6 107 (by decide +kernel) rfl
theorem hw_1308 : (Jvm.Cond.methodLink "NamelessBoxModel" (253 : Nat) ({ cls := "NamelessBoxModel", name := "years", desc := "(I)I" } : Jvm.MethodName)) ∈ cx_G := cx_t6 108 (by decide +kernel) rfl
theorem hw_1310 : (Jvm.Cond.instanceMethod ({ cls := "NamelessBoxModel", name := "years", desc := "(I)I" } : Jvm.MethodName)) ∈ cx_G := cx_t6 110 (by decide +kernel) rfl
theorem hw_1311 : (Jvm.Cond.code ({ cls := "NamelessBoxModel", name := "years", desc := "(I)I" } : Jvm.MethodName) prog_11_method_53_code (2 : Nat) (Option.some Jvm.ClassFile.FieldType.int)) ∈ cx_G := cx_t6 111 (by decide +kernel) rfl
theorem hw_1312 : (Jvm.Cond.methodLink "NamelessBoxModel" (259 : Nat) ({ cls := "NamelessBoxModel", name := "termOf", desc := "(II)J" } : Jvm.MethodName)) ∈ cx_G := cx_t6 112 (by decide +kernel) rfl
theorem hw_1314 : (Jvm.Cond.instanceMethod ({ cls := "NamelessBoxModel", name := "termOf", desc := "(II)J" } : Jvm.MethodName)) ∈ cx_G := cx_t6 114 (by decide +kernel) rfl
theorem hw_1315 : (Jvm.Cond.code ({ cls := "NamelessBoxModel", name := "termOf", desc := "(II)J" } : Jvm.MethodName) prog_11_method_52_code (6 : Nat) (Option.some Jvm.ClassFile.FieldType.long)) ∈ cx_G := cx_t6 115 (by decide +kernel) rfl
theorem hw_1316 : (Jvm.Cond.methodLink "NamelessBoxModel" (263 : Nat) ({ cls := "NamelessBoxModel", name := "timesLong", desc := "(IJ)V" } : Jvm.MethodName)) ∈ cx_G := cx_t6 116 (by decide +kernel) rfl
theorem hw_1318 : (Jvm.Cond.instanceMethod ({ cls := "NamelessBoxModel", name := "timesLong", desc := "(IJ)V" } : Jvm.MethodName)) ∈ cx_G := cx_t6 118 (by decide +kernel) rfl
theorem hw_1319 : (Jvm.Cond.code ({ cls := "NamelessBoxModel", name := "timesLong", desc := "(IJ)V" } : Jvm.MethodName) prog_11_method_55_code (4 : Nat) (Option.none : Option Jvm.ClassFile.FieldType)) ∈ cx_G := cx_t6 119 (by decide +kernel) rfl
theorem hw_1320 : (Jvm.Cond.methodLink "NamelessBoxModel" (241 : Nat) ({ cls := "NamelessBoxModel", name := "multiplies", desc := "(II)V" } : Jvm.MethodName)) ∈ cx_G := cx_t6 120 (by decide +kernel) rfl
theorem hw_1322 : (Jvm.Cond.instanceMethod ({ cls := "NamelessBoxModel", name := "multiplies", desc := "(II)V" } : Jvm.MethodName)) ∈ cx_G := cx_t6 122 (by decide +kernel) rfl
theorem hw_1323 : (Jvm.Cond.code ({ cls := "NamelessBoxModel", name := "multiplies", desc := "(II)V" } : Jvm.MethodName) prog_11_method_7_code (11 : Nat) (Option.none : Option Jvm.ClassFile.FieldType)) ∈ cx_G := cx_t6 123 (by decide +kernel) rfl
theorem hw_1324 : (Jvm.Cond.methodLink "NamelessBoxModel" (20 : Nat) ({ cls := "NamelessBoxModel", name := "takes", desc := "(II)V" } : Jvm.MethodName)) ∈ cx_G := cx_t6 124 (by decide +kernel) rfl
theorem hw_1326 : (Jvm.Cond.instanceMethod ({ cls := "NamelessBoxModel", name := "takes", desc := "(II)V" } : Jvm.MethodName)) ∈ cx_G := cx_t6 126 (by decide +kernel) rfl
theorem hw_1327 : (Jvm.Cond.code ({ cls := "NamelessBoxModel", name := "takes", desc := "(II)V" } : Jvm.MethodName) prog_11_method_5_code (4 : Nat) (Option.none : Option Jvm.ClassFile.FieldType)) ∈ cx_G := cx_t6 127 (by decide +kernel) rfl
theorem hw_1328 : (Jvm.Cond.methodLink "NamelessBoxModel" (266 : Nat) ({ cls := "NamelessBoxModel", name := "times", desc := "(II)V" } : Jvm.MethodName)) ∈ cx_G := cx_t6 128 (by decide +kernel) rfl
theorem hw_1330 : (Jvm.Cond.instanceMethod ({ cls := "NamelessBoxModel", name := "times", desc := "(II)V" } : Jvm.MethodName)) ∈ cx_G := cx_t6 130 (by decide +kernel) rfl
theorem hw_1331 : (Jvm.Cond.code ({ cls := "NamelessBoxModel", name := "times", desc := "(II)V" } : Jvm.MethodName) prog_11_method_6_code (8 : Nat) (Option.none : Option Jvm.ClassFile.FieldType)) ∈ cx_G := cx_t6 131 (by decide +kernel) rfl
theorem hw_1332 : (Jvm.Cond.methodLink "NamelessBoxModel" (278 : Nat) ({ cls := "NamelessBoxModel", name := "adds", desc := "(II)V" } : Jvm.MethodName)) ∈ cx_G := cx_t6 132 (by decide +kernel) rfl
theorem hw_1334 : (Jvm.Cond.instanceMethod ({ cls := "NamelessBoxModel", name := "adds", desc := "(II)V" } : Jvm.MethodName)) ∈ cx_G := cx_t6 134 (by decide +kernel) rfl
theorem hw_1335 : (Jvm.Cond.code ({ cls := "NamelessBoxModel", name := "adds", desc := "(II)V" } : Jvm.MethodName) prog_11_method_8_code (7 : Nat) (Option.none : Option Jvm.ClassFile.FieldType)) ∈ cx_G := cx_t6 135 (by decide +kernel) rfl
theorem hw_1336 : (Jvm.Cond.constant "NamelessBoxModel" (24 : Nat) (1073741823 : Int32)) ∈ cx_G := cx_t6 136 (by decide +kernel) rfl
theorem hw_1337 : (Jvm.Cond.methodLink "NamelessBoxModel" (290 : Nat) ({ cls := "NamelessBoxModel", name := "no", desc := "()I" } : Jvm.MethodName)) ∈ cx_G := cx_t6 137 (by decide +kernel) rfl
theorem hw_1339 : (Jvm.Cond.instanceMethod ({ cls := "NamelessBoxModel", name := "no", desc := "()I" } : Jvm.MethodName)) ∈ cx_G := cx_t6 139 (by decide +kernel) rfl
theorem hw_1340 : (Jvm.Cond.code ({ cls := "NamelessBoxModel", name := "no", desc := "()I" } : Jvm.MethodName) prog_11_method_19_code (1 : Nat) (Option.some Jvm.ClassFile.FieldType.int)) ∈ cx_G := cx_t6 140 (by decide +kernel) rfl
theorem hw_1341 : (Jvm.Cond.methodLink "NamelessBoxModel" (293 : Nat) ({ cls := "NamelessBoxModel", name := "tellsHit", desc := "()I" } : Jvm.MethodName)) ∈ cx_G := cx_t6 141 (by decide +kernel) rfl
theorem hw_1343 : (Jvm.Cond.instanceMethod ({ cls := "NamelessBoxModel", name := "tellsHit", desc := "()I" } : Jvm.MethodName)) ∈ cx_G := cx_t6 143 (by decide +kernel) rfl
theorem hw_1344 : (Jvm.Cond.code ({ cls := "NamelessBoxModel", name := "tellsHit", desc := "()I" } : Jvm.MethodName) prog_11_method_60_code (1 : Nat) (Option.some Jvm.ClassFile.FieldType.int)) ∈ cx_G := cx_t6 144 (by decide +kernel) rfl
theorem hw_1345 : (Jvm.Cond.methodLink "NamelessBoxModel" (42 : Nat) ({ cls := "NamelessBoxModel", name := "lowers", desc := "()V" } : Jvm.MethodName)) ∈ cx_G := cx_t6 145 (by decide +kernel) rfl
theorem hw_1347 : (Jvm.Cond.instanceMethod ({ cls := "NamelessBoxModel", name := "lowers", desc := "()V" } : Jvm.MethodName)) ∈ cx_G := cx_t6 147 (by decide +kernel) rfl
theorem hw_1348 : (Jvm.Cond.code ({ cls := "NamelessBoxModel", name := "lowers", desc := "()V" } : Jvm.MethodName) prog_11_method_13_code (2 : Nat) (Option.none : Option Jvm.ClassFile.FieldType)) ∈ cx_G := cx_t6 148 (by decide +kernel) rfl
theorem hw_1349 : (Jvm.Cond.methodLink "NamelessBoxModel" (25 : Nat) ({ cls := "NamelessBoxModel", name := "isEven", desc := "(I)Z" } : Jvm.MethodName)) ∈ cx_G := cx_t6 149 (by decide +kernel) rfl
theorem hw_1351 : (Jvm.Cond.instanceMethod ({ cls := "NamelessBoxModel", name := "isEven", desc := "(I)Z" } : Jvm.MethodName)) ∈ cx_G := cx_t6 151 (by decide +kernel) rfl
theorem hw_1352 : (Jvm.Cond.code ({ cls := "NamelessBoxModel", name := "isEven", desc := "(I)Z" } : Jvm.MethodName) prog_11_method_11_code (2 : Nat) (Option.some Jvm.ClassFile.FieldType.boolean)) ∈ cx_G := cx_t6 152 (by decide +kernel) rfl
theorem hw_1353 : (Jvm.Cond.methodLink "NamelessBoxModel" (29 : Nat) ({ cls := "NamelessBoxModel", name := "halves", desc := "(I)V" } : Jvm.MethodName)) ∈ cx_G := cx_t6 153 (by decide +kernel) rfl
theorem hw_1355 : (Jvm.Cond.instanceMethod ({ cls := "NamelessBoxModel", name := "halves", desc := "(I)V" } : Jvm.MethodName)) ∈ cx_G := cx_t6 155 (by decide +kernel) rfl
theorem hw_1356 : (Jvm.Cond.code ({ cls := "NamelessBoxModel", name := "halves", desc := "(I)V" } : Jvm.MethodName) prog_11_method_12_code (4 : Nat) (Option.none : Option Jvm.ClassFile.FieldType)) ∈ cx_G := cx_t6 156 (by decide +kernel) rfl
theorem hw_1357 : (Jvm.Cond.methodLink "NamelessBoxModel" (32 : Nat) ({ cls := "NamelessBoxModel", name := "against", desc := "(II)I" } : Jvm.MethodName)) ∈ cx_G := cx_t6 157 (by decide +kernel) rfl
theorem hw_1359 : (Jvm.Cond.instanceMethod ({ cls := "NamelessBoxModel", name := "against", desc := "(II)I" } : Jvm.MethodName)) ∈ cx_G := cx_t6 159 (by decide +kernel) rfl
theorem hw_1360 : (Jvm.Cond.code ({ cls := "NamelessBoxModel", name := "against", desc := "(II)I" } : Jvm.MethodName) prog_11_method_10_code (4 : Nat) (Option.some Jvm.ClassFile.FieldType.int)) ∈ cx_G := cx_t6 160 (by decide +kernel) rfl
theorem hw_1361 : (Jvm.Cond.methodLink "NamelessBoxModel" (36 : Nat) ({ cls := "NamelessBoxModel", name := "lessens", desc := "(II)V" } : Jvm.MethodName)) ∈ cx_G := cx_t6 161 (by decide +kernel) rfl
theorem hw_1363 : (Jvm.Cond.instanceMethod ({ cls := "NamelessBoxModel", name := "lessens", desc := "(II)V" } : Jvm.MethodName)) ∈ cx_G := cx_t6 163 (by decide +kernel) rfl
theorem hw_1364 : (Jvm.Cond.code ({ cls := "NamelessBoxModel", name := "lessens", desc := "(II)V" } : Jvm.MethodName) prog_11_method_9_code (6 : Nat) (Option.none : Option Jvm.ClassFile.FieldType)) ∈ cx_G := cx_t6 164 (by decide +kernel) rfl
theorem hw_1365 : (Jvm.Cond.methodLink "NamelessBoxModel" (39 : Nat) ({ cls := "NamelessBoxModel", name := "dividesOdd", desc := "(I)V" } : Jvm.MethodName)) ∈ cx_G := cx_t6 165 (by decide +kernel) rfl
theorem hw_1367 : (Jvm.Cond.instanceMethod ({ cls := "NamelessBoxModel", name := "dividesOdd", desc := "(I)V" } : Jvm.MethodName)) ∈ cx_G := cx_t6 167 (by decide +kernel) rfl
theorem hw_1368 : (Jvm.Cond.code ({ cls := "NamelessBoxModel", name := "dividesOdd", desc := "(I)V" } : Jvm.MethodName) prog_11_method_14_code (13 : Nat) (Option.none : Option Jvm.ClassFile.FieldType)) ∈ cx_G := cx_t6 168 (by decide +kernel) rfl
theorem hw_1369 : (Jvm.Cond.methodLink "NamelessBoxLaw" (85 : Nat) ({ cls := "NamelessBoxModel", name := "named", desc := "(I)I" } : Jvm.MethodName)) ∈ cx_G := cx_t6 169 (by decide +kernel) rfl
theorem hw_1370 : (Jvm.Cond.instanceMethod ({ cls := "NamelessBoxModel", name := "named", desc := "(I)I" } : Jvm.MethodName)) ∈ cx_G := cx_t6 170 (by decide +kernel) rfl
theorem hw_1371 : (Jvm.Cond.selects "NamelessBoxModel" ({ cls := "NamelessBoxModel", name := "named", desc := "(I)I" } : Jvm.MethodName) ({ cls := "NamelessBoxModel", name := "named", desc := "(I)I" } : Jvm.MethodName)) ∈ cx_G := cx_t6 171 (by decide +kernel) rfl
theorem hw_1372 : (Jvm.Cond.code ({ cls := "NamelessBoxModel", name := "named", desc := "(I)I" } : Jvm.MethodName) prog_11_method_64_code (3 : Nat) (Option.some Jvm.ClassFile.FieldType.int)) ∈ cx_G := cx_t6 172 (by decide +kernel) rfl
theorem hw_1373 : (Jvm.Cond.methodLink "NamelessBoxModel" (296 : Nat) ({ cls := "NamelessBoxModel", name := "namedNow", desc := "(I)I" } : Jvm.MethodName)) ∈ cx_G := cx_t6 173 (by decide +kernel) rfl
theorem hw_1375 : (Jvm.Cond.instanceMethod ({ cls := "NamelessBoxModel", name := "namedNow", desc := "(I)I" } : Jvm.MethodName)) ∈ cx_G := cx_t6 175 (by decide +kernel) rfl
theorem hw_1376 : (Jvm.Cond.code ({ cls := "NamelessBoxModel", name := "namedNow", desc := "(I)I" } : Jvm.MethodName) prog_11_method_62_code (4 : Nat) (Option.some Jvm.ClassFile.FieldType.int)) ∈ cx_G := cx_t6 176 (by decide +kernel) rfl
theorem hw_1377 : (Jvm.Cond.methodLink "NamelessBoxLaw" (89 : Nat) ({ cls := "NamelessBoxModel", name := "best", desc := "(I)I" } : Jvm.MethodName)) ∈ cx_G := cx_t6 177 (by decide +kernel) rfl
theorem hw_1378 : (Jvm.Cond.instanceMethod ({ cls := "NamelessBoxModel", name := "best", desc := "(I)I" } : Jvm.MethodName)) ∈ cx_G := cx_t6 178 (by decide +kernel) rfl
theorem hw_1379 : (Jvm.Cond.selects "NamelessBoxModel" ({ cls := "NamelessBoxModel", name := "best", desc := "(I)I" } : Jvm.MethodName) ({ cls := "NamelessBoxModel", name := "best", desc := "(I)I" } : Jvm.MethodName)) ∈ cx_G := cx_t6 179 (by decide +kernel) rfl
theorem hw_1380 : (Jvm.Cond.code ({ cls := "NamelessBoxModel", name := "best", desc := "(I)I" } : Jvm.MethodName) prog_11_method_65_code (5 : Nat) (Option.some Jvm.ClassFile.FieldType.int)) ∈ cx_G := cx_t6 180 (by decide +kernel) rfl
theorem hw_1381 : (Jvm.Cond.methodLink "NamelessBoxLaw" (93 : Nat) ({ cls := "NamelessBoxModel", name := "all", desc := "()I" } : Jvm.MethodName)) ∈ cx_G := cx_t6 181 (by decide +kernel) rfl
theorem hw_1382 : (Jvm.Cond.instanceMethod ({ cls := "NamelessBoxModel", name := "all", desc := "()I" } : Jvm.MethodName)) ∈ cx_G := cx_t6 182 (by decide +kernel) rfl
theorem hw_1383 : (Jvm.Cond.selects "NamelessBoxModel" ({ cls := "NamelessBoxModel", name := "all", desc := "()I" } : Jvm.MethodName) ({ cls := "NamelessBoxModel", name := "all", desc := "()I" } : Jvm.MethodName)) ∈ cx_G := cx_t6 183 (by decide +kernel) rfl
theorem hw_1384 : (Jvm.Cond.code ({ cls := "NamelessBoxModel", name := "all", desc := "()I" } : Jvm.MethodName) prog_11_method_66_code (1 : Nat) (Option.some Jvm.ClassFile.FieldType.int)) ∈ cx_G := cx_t6 184 (by decide +kernel) rfl
theorem hw_1385 : (Jvm.Cond.methodLink "NamelessBoxModel" (299 : Nat) ({ cls := "NamelessBoxModel", name := "sums", desc := "(III)V" } : Jvm.MethodName)) ∈ cx_G := cx_t6 185 (by decide +kernel) rfl
theorem hw_1387 : (Jvm.Cond.instanceMethod ({ cls := "NamelessBoxModel", name := "sums", desc := "(III)V" } : Jvm.MethodName)) ∈ cx_G := cx_t6 187 (by decide +kernel) rfl
theorem hw_1388 : (Jvm.Cond.code ({ cls := "NamelessBoxModel", name := "sums", desc := "(III)V" } : Jvm.MethodName) prog_11_method_59_code (7 : Nat) (Option.none : Option Jvm.ClassFile.FieldType)) ∈ cx_G := cx_t6 188 (by decide +kernel) rfl
theorem hw_1389 : (Jvm.Cond.methodLink "NamelessBoxModel" (281 : Nat) ({ cls := "NamelessBoxModel", name := "counts", desc := "(III)I" } : Jvm.MethodName)) ∈ cx_G := cx_t6 189 (by decide +kernel) rfl
theorem hw_1391 : (Jvm.Cond.instanceMethod ({ cls := "NamelessBoxModel", name := "counts", desc := "(III)I" } : Jvm.MethodName)) ∈ cx_G := cx_t6 191 (by decide +kernel) rfl
theorem hw_1392 : (Jvm.Cond.code ({ cls := "NamelessBoxModel", name := "counts", desc := "(III)I" } : Jvm.MethodName) prog_11_method_58_code (6 : Nat) (Option.some Jvm.ClassFile.FieldType.int)) ∈ cx_G := cx_t6 192 (by decide +kernel) rfl
theorem hw_1393 : (Jvm.Cond.methodLink "NamelessBoxModel" (269 : Nat) ({ cls := "NamelessBoxModel", name := "isOn", desc := "(II)Z" } : Jvm.MethodName)) ∈ cx_G := cx_t6 193 (by decide +kernel) rfl
theorem hw_1395 : (Jvm.Cond.instanceMethod ({ cls := "NamelessBoxModel", name := "isOn", desc := "(II)Z" } : Jvm.MethodName)) ∈ cx_G := cx_t6 195 (by decide +kernel) rfl
theorem hw_1396 : (Jvm.Cond.code ({ cls := "NamelessBoxModel", name := "isOn", desc := "(II)Z" } : Jvm.MethodName) prog_11_method_57_code (5 : Nat) (Option.some Jvm.ClassFile.FieldType.boolean)) ∈ cx_G := cx_t6 196 (by decide +kernel) rfl
theorem hw_1397 : (Jvm.Cond.methodLink "NamelessBoxLaw" (97 : Nat) ({ cls := "NamelessBoxModel", name := "sure", desc := "(I)I" } : Jvm.MethodName)) ∈ cx_G := cx_t6 197 (by decide +kernel) rfl
theorem hw_1398 : (Jvm.Cond.instanceMethod ({ cls := "NamelessBoxModel", name := "sure", desc := "(I)I" } : Jvm.MethodName)) ∈ cx_G := cx_t6 198 (by decide +kernel) rfl
theorem hw_1399 : (Jvm.Cond.selects "NamelessBoxModel" ({ cls := "NamelessBoxModel", name := "sure", desc := "(I)I" } : Jvm.MethodName) ({ cls := "NamelessBoxModel", name := "sure", desc := "(I)I" } : Jvm.MethodName)) ∈ cx_G := cx_t6 199 (by decide +kernel) rfl
theorem hw_1400 : (Jvm.Cond.code ({ cls := "NamelessBoxModel", name := "sure", desc := "(I)I" } : Jvm.MethodName) prog_11_method_68_code (4 : Nat) (Option.some Jvm.ClassFile.FieldType.int)) ∈ cx_G := cx_t6 200 (by decide +kernel) rfl
theorem hw_1401 : (Jvm.Cond.methodLink "NamelessBoxModel" (303 : Nat) ({ cls := "NamelessBoxModel", name := "isSure", desc := "(II)Z" } : Jvm.MethodName)) ∈ cx_G := cx_t6 201 (by decide +kernel) rfl
theorem hw_1403 : (Jvm.Cond.instanceMethod ({ cls := "NamelessBoxModel", name := "isSure", desc := "(II)Z" } : Jvm.MethodName)) ∈ cx_G := cx_t6 203 (by decide +kernel) rfl
theorem hw_1404 : (Jvm.Cond.code ({ cls := "NamelessBoxModel", name := "isSure", desc := "(II)Z" } : Jvm.MethodName) prog_11_method_67_code (3 : Nat) (Option.some Jvm.ClassFile.FieldType.boolean)) ∈ cx_G := cx_t6 204 (by decide +kernel) rfl
theorem hw_1405 : (Jvm.Cond.methodLink "NamelessBoxLaw" (101 : Nat) ({ cls := "NamelessBoxModel", name := "falls", desc := "(II)I" } : Jvm.MethodName)) ∈ cx_G := cx_t6 205 (by decide +kernel) rfl
theorem hw_1406 : (Jvm.Cond.instanceMethod ({ cls := "NamelessBoxModel", name := "falls", desc := "(II)I" } : Jvm.MethodName)) ∈ cx_G := cx_t6 206 (by decide +kernel) rfl
theorem hw_1407 : (Jvm.Cond.selects "NamelessBoxModel" ({ cls := "NamelessBoxModel", name := "falls", desc := "(II)I" } : Jvm.MethodName) ({ cls := "NamelessBoxModel", name := "falls", desc := "(II)I" } : Jvm.MethodName)) ∈ cx_G := cx_t6 207 (by decide +kernel) rfl
theorem hw_1408 : (Jvm.Cond.code ({ cls := "NamelessBoxModel", name := "falls", desc := "(II)I" } : Jvm.MethodName) prog_11_method_69_code (6 : Nat) (Option.some Jvm.ClassFile.FieldType.int)) ∈ cx_G := cx_t6 208 (by decide +kernel) rfl
theorem hw_1409 : (Jvm.Cond.methodLink "NamelessBoxLaw" (105 : Nat) ({ cls := "NamelessBoxModel", name := "same", desc := "(II)I" } : Jvm.MethodName)) ∈ cx_G := cx_t6 209 (by decide +kernel) rfl
theorem hw_1410 : (Jvm.Cond.instanceMethod ({ cls := "NamelessBoxModel", name := "same", desc := "(II)I" } : Jvm.MethodName)) ∈ cx_G := cx_t6 210 (by decide +kernel) rfl
theorem hw_1411 : (Jvm.Cond.selects "NamelessBoxModel" ({ cls := "NamelessBoxModel", name := "same", desc := "(II)I" } : Jvm.MethodName) ({ cls := "NamelessBoxModel", name := "same", desc := "(II)I" } : Jvm.MethodName)) ∈ cx_G := cx_t6 211 (by decide +kernel) rfl
theorem hw_1412 : (Jvm.Cond.code ({ cls := "NamelessBoxModel", name := "same", desc := "(II)I" } : Jvm.MethodName) prog_11_method_71_code (3 : Nat) (Option.some Jvm.ClassFile.FieldType.int)) ∈ cx_G := cx_t6 212 (by decide +kernel) rfl
theorem hw_1413 : (Jvm.Cond.methodLink "NamelessBoxModel" (306 : Nat) ({ cls := "NamelessBoxModel", name := "asks", desc := "(III)I" } : Jvm.MethodName)) ∈ cx_G := cx_t6 213 (by decide +kernel) rfl
theorem hw_1415 : (Jvm.Cond.instanceMethod ({ cls := "NamelessBoxModel", name := "asks", desc := "(III)I" } : Jvm.MethodName)) ∈ cx_G := cx_t6 215 (by decide +kernel) rfl
theorem hw_1416 : (Jvm.Cond.code ({ cls := "NamelessBoxModel", name := "asks", desc := "(III)I" } : Jvm.MethodName) prog_11_method_70_code (4 : Nat) (Option.some Jvm.ClassFile.FieldType.int)) ∈ cx_G := cx_t6 216 (by decide +kernel) rfl
theorem hw_1417 : (Jvm.Cond.methodLink "NamelessBoxLaw" (109 : Nat) ({ cls := "NamelessBoxModel", name := "noneOf", desc := "(I)I" } : Jvm.MethodName)) ∈ cx_G := cx_t6 217 (by decide +kernel) rfl
theorem hw_1418 : (Jvm.Cond.instanceMethod ({ cls := "NamelessBoxModel", name := "noneOf", desc := "(I)I" } : Jvm.MethodName)) ∈ cx_G := cx_t6 218 (by decide +kernel) rfl
theorem hw_1419 : (Jvm.Cond.selects "NamelessBoxModel" ({ cls := "NamelessBoxModel", name := "noneOf", desc := "(I)I" } : Jvm.MethodName) ({ cls := "NamelessBoxModel", name := "noneOf", desc := "(I)I" } : Jvm.MethodName)) ∈ cx_G := cx_t6 219 (by decide +kernel) rfl
theorem hw_1420 : (Jvm.Cond.code ({ cls := "NamelessBoxModel", name := "noneOf", desc := "(I)I" } : Jvm.MethodName) prog_11_method_72_code (2 : Nat) (Option.some Jvm.ClassFile.FieldType.int)) ∈ cx_G := cx_t6 220 (by decide +kernel) rfl
theorem hw_1421 : (Jvm.Cond.methodLink "NamelessBoxLaw" (113 : Nat) ({ cls := "NamelessBoxModel", name := "friend", desc := "(I)I" } : Jvm.MethodName)) ∈ cx_G := cx_t6 221 (by decide +kernel) rfl
theorem hw_1422 : (Jvm.Cond.instanceMethod ({ cls := "NamelessBoxModel", name := "friend", desc := "(I)I" } : Jvm.MethodName)) ∈ cx_G := cx_t6 222 (by decide +kernel) rfl
theorem hw_1423 : (Jvm.Cond.selects "NamelessBoxModel" ({ cls := "NamelessBoxModel", name := "friend", desc := "(I)I" } : Jvm.MethodName) ({ cls := "NamelessBoxModel", name := "friend", desc := "(I)I" } : Jvm.MethodName)) ∈ cx_G := cx_t6 223 (by decide +kernel) rfl
theorem hw_1424 : (Jvm.Cond.code ({ cls := "NamelessBoxModel", name := "friend", desc := "(I)I" } : Jvm.MethodName) prog_11_method_73_code (2 : Nat) (Option.some Jvm.ClassFile.FieldType.int)) ∈ cx_G := cx_t6 224 (by decide +kernel) rfl
theorem hw_1425 : (Jvm.Cond.methodLink "NamelessBoxLaw" (117 : Nat) ({ cls := "NamelessBoxModel", name := "of", desc := "(II)I" } : Jvm.MethodName)) ∈ cx_G := cx_t6 225 (by decide +kernel) rfl
theorem hw_1426 : (Jvm.Cond.instanceMethod ({ cls := "NamelessBoxModel", name := "of", desc := "(II)I" } : Jvm.MethodName)) ∈ cx_G := cx_t6 226 (by decide +kernel) rfl
theorem hw_1427 : (Jvm.Cond.selects "NamelessBoxModel" ({ cls := "NamelessBoxModel", name := "of", desc := "(II)I" } : Jvm.MethodName) ({ cls := "NamelessBoxModel", name := "of", desc := "(II)I" } : Jvm.MethodName)) ∈ cx_G := cx_t6 227 (by decide +kernel) rfl
theorem hw_1428 : (Jvm.Cond.code ({ cls := "NamelessBoxModel", name := "of", desc := "(II)I" } : Jvm.MethodName) prog_11_method_74_code (3 : Nat) (Option.some Jvm.ClassFile.FieldType.int)) ∈ cx_G := cx_t6 228 (by decide +kernel) rfl
theorem hw_1429 : (Jvm.Cond.methodLink "NamelessBoxLaw" (121 : Nat) ({ cls := "NamelessBoxModel", name := "when", desc := "(II)I" } : Jvm.MethodName)) ∈ cx_G := cx_t6 229 (by decide +kernel) rfl
theorem hw_1430 : (Jvm.Cond.instanceMethod ({ cls := "NamelessBoxModel", name := "when", desc := "(II)I" } : Jvm.MethodName)) ∈ cx_G := cx_t6 230 (by decide +kernel) rfl
theorem hw_1431 : (Jvm.Cond.selects "NamelessBoxModel" ({ cls := "NamelessBoxModel", name := "when", desc := "(II)I" } : Jvm.MethodName) ({ cls := "NamelessBoxModel", name := "when", desc := "(II)I" } : Jvm.MethodName)) ∈ cx_G := cx_t6 231 (by decide +kernel) rfl
theorem hw_1432 : (Jvm.Cond.code ({ cls := "NamelessBoxModel", name := "when", desc := "(II)I" } : Jvm.MethodName) prog_11_method_76_code (3 : Nat) (Option.some Jvm.ClassFile.FieldType.int)) ∈ cx_G := cx_t6 232 (by decide +kernel) rfl
theorem hw_1433 : (Jvm.Cond.methodLink "NamelessBoxModel" (309 : Nat) ({ cls := "NamelessBoxModel", name := "years2", desc := "(IIII)Z" } : Jvm.MethodName)) ∈ cx_G := cx_t6 233 (by decide +kernel) rfl
theorem hw_1435 : (Jvm.Cond.instanceMethod ({ cls := "NamelessBoxModel", name := "years2", desc := "(IIII)Z" } : Jvm.MethodName)) ∈ cx_G := cx_t6 235 (by decide +kernel) rfl
theorem hw_1436 : (Jvm.Cond.code ({ cls := "NamelessBoxModel", name := "years2", desc := "(IIII)Z" } : Jvm.MethodName) prog_11_method_75_code (5 : Nat) (Option.some Jvm.ClassFile.FieldType.boolean)) ∈ cx_G := cx_t6 236 (by decide +kernel) rfl
theorem hw_1437 : (Jvm.Cond.methodLink "NamelessBoxLaw" (125 : Nat) ({ cls := "NamelessBoxModel", name := "span", desc := "(II)I" } : Jvm.MethodName)) ∈ cx_G := cx_t6 237 (by decide +kernel) rfl
theorem hw_1438 : (Jvm.Cond.instanceMethod ({ cls := "NamelessBoxModel", name := "span", desc := "(II)I" } : Jvm.MethodName)) ∈ cx_G := cx_t6 238 (by decide +kernel) rfl
theorem hw_1439 : (Jvm.Cond.selects "NamelessBoxModel" ({ cls := "NamelessBoxModel", name := "span", desc := "(II)I" } : Jvm.MethodName) ({ cls := "NamelessBoxModel", name := "span", desc := "(II)I" } : Jvm.MethodName)) ∈ cx_G := cx_t6 239 (by decide +kernel) rfl
theorem hw_1440 : (Jvm.Cond.code ({ cls := "NamelessBoxModel", name := "span", desc := "(II)I" } : Jvm.MethodName) prog_11_method_77_code (6 : Nat) (Option.some Jvm.ClassFile.FieldType.int)) ∈ cx_G := cx_t7 0 (by decide +kernel) rfl
theorem hw_1441 : (Jvm.Cond.methodLink "NamelessBoxLaw" (129 : Nat) ({ cls := "NamelessBoxModel", name := "ahead", desc := "(II)I" } : Jvm.MethodName)) ∈ cx_G := cx_t7 1 (by decide +kernel) rfl
theorem hw_1442 : (Jvm.Cond.instanceMethod ({ cls := "NamelessBoxModel", name := "ahead", desc := "(II)I" } : Jvm.MethodName)) ∈ cx_G := cx_t7 2 (by decide +kernel) rfl
theorem hw_1443 : (Jvm.Cond.selects "NamelessBoxModel" ({ cls := "NamelessBoxModel", name := "ahead", desc := "(II)I" } : Jvm.MethodName) ({ cls := "NamelessBoxModel", name := "ahead", desc := "(II)I" } : Jvm.MethodName)) ∈ cx_G := cx_t7 3 (by decide +kernel) rfl
theorem hw_1444 : (Jvm.Cond.code ({ cls := "NamelessBoxModel", name := "ahead", desc := "(II)I" } : Jvm.MethodName) prog_11_method_78_code (3 : Nat) (Option.some Jvm.ClassFile.FieldType.int)) ∈ cx_G := cx_t7 4 (by decide +kernel) rfl
theorem hw_1445 : (Jvm.Cond.methodLink "NamelessBoxLaw" (133 : Nat) ({ cls := "NamelessBoxModel", name := "parts", desc := "(II)I" } : Jvm.MethodName)) ∈ cx_G := cx_t7 5 (by decide +kernel) rfl
theorem hw_1446 : (Jvm.Cond.instanceMethod ({ cls := "NamelessBoxModel", name := "parts", desc := "(II)I" } : Jvm.MethodName)) ∈ cx_G := cx_t7 6 (by decide +kernel) rfl
theorem hw_1447 : (Jvm.Cond.selects "NamelessBoxModel" ({ cls := "NamelessBoxModel", name := "parts", desc := "(II)I" } : Jvm.MethodName) ({ cls := "NamelessBoxModel", name := "parts", desc := "(II)I" } : Jvm.MethodName)) ∈ cx_G := cx_t7 7 (by decide +kernel) rfl
theorem hw_1448 : (Jvm.Cond.code ({ cls := "NamelessBoxModel", name := "parts", desc := "(II)I" } : Jvm.MethodName) prog_11_method_79_code (6 : Nat) (Option.some Jvm.ClassFile.FieldType.int)) ∈ cx_G := cx_t7 8 (by decide +kernel) rfl
theorem hw_1449 : (Jvm.Cond.methodLink "NamelessBoxLaw" (137 : Nat) ({ cls := "NamelessBoxModel", name := "doubt", desc := "(II)I" } : Jvm.MethodName)) ∈ cx_G := cx_t7 9 (by decide +kernel) rfl
theorem hw_1450 : (Jvm.Cond.instanceMethod ({ cls := "NamelessBoxModel", name := "doubt", desc := "(II)I" } : Jvm.MethodName)) ∈ cx_G := cx_t7 10 (by decide +kernel) rfl
theorem hw_1451 : (Jvm.Cond.selects "NamelessBoxModel" ({ cls := "NamelessBoxModel", name := "doubt", desc := "(II)I" } : Jvm.MethodName) ({ cls := "NamelessBoxModel", name := "doubt", desc := "(II)I" } : Jvm.MethodName)) ∈ cx_G := cx_t7 11 (by decide +kernel) rfl
theorem hw_1452 : (Jvm.Cond.code ({ cls := "NamelessBoxModel", name := "doubt", desc := "(II)I" } : Jvm.MethodName) prog_11_method_80_code (6 : Nat) (Option.some Jvm.ClassFile.FieldType.int)) ∈ cx_G := cx_t7 12 (by decide +kernel) rfl
theorem hw_1453 : (Jvm.Cond.methodLink "NamelessBoxLaw" (141 : Nat) ({ cls := "NamelessBoxModel", name := "right", desc := "()I" } : Jvm.MethodName)) ∈ cx_G := cx_t7 13 (by decide +kernel) rfl
theorem hw_1454 : (Jvm.Cond.instanceMethod ({ cls := "NamelessBoxModel", name := "right", desc := "()I" } : Jvm.MethodName)) ∈ cx_G := cx_t7 14 (by decide +kernel) rfl
theorem hw_1455 : (Jvm.Cond.selects "NamelessBoxModel" ({ cls := "NamelessBoxModel", name := "right", desc := "()I" } : Jvm.MethodName) ({ cls := "NamelessBoxModel", name := "right", desc := "()I" } : Jvm.MethodName)) ∈ cx_G := cx_t7 15 (by decide +kernel) rfl
theorem hw_1456 : (Jvm.Cond.code ({ cls := "NamelessBoxModel", name := "right", desc := "()I" } : Jvm.MethodName) prog_11_method_82_code (1 : Nat) (Option.some Jvm.ClassFile.FieldType.int)) ∈ cx_G := cx_t7 16 (by decide +kernel) rfl
theorem hw_1457 : (Jvm.Cond.methodLink "NamelessBoxModel" (313 : Nat) ({ cls := "NamelessBoxModel", name := "rights", desc := "(I)V" } : Jvm.MethodName)) ∈ cx_G := cx_t7 17 (by decide +kernel) rfl
theorem hw_1459 : (Jvm.Cond.instanceMethod ({ cls := "NamelessBoxModel", name := "rights", desc := "(I)V" } : Jvm.MethodName)) ∈ cx_G := cx_t7 19 (by decide +kernel) rfl
theorem hw_1460 : (Jvm.Cond.code ({ cls := "NamelessBoxModel", name := "rights", desc := "(I)V" } : Jvm.MethodName) prog_11_method_81_code (3 : Nat) (Option.none : Option Jvm.ClassFile.FieldType)) ∈ cx_G := cx_t7 20 (by decide +kernel) rfl
theorem hw_1461 : (Jvm.Cond.methodLink "NamelessBoxLaw" (145 : Nat) ({ cls := "NamelessBoxModel", name := "ask", desc := "(I)I" } : Jvm.MethodName)) ∈ cx_G := cx_t7 21 (by decide +kernel) rfl
theorem hw_1462 : (Jvm.Cond.instanceMethod ({ cls := "NamelessBoxModel", name := "ask", desc := "(I)I" } : Jvm.MethodName)) ∈ cx_G := cx_t7 22 (by decide +kernel) rfl
theorem hw_1463 : (Jvm.Cond.selects "NamelessBoxModel" ({ cls := "NamelessBoxModel", name := "ask", desc := "(I)I" } : Jvm.MethodName) ({ cls := "NamelessBoxModel", name := "ask", desc := "(I)I" } : Jvm.MethodName)) ∈ cx_G := cx_t7 23 (by decide +kernel) rfl
theorem hw_1464 : (Jvm.Cond.code ({ cls := "NamelessBoxModel", name := "ask", desc := "(I)I" } : Jvm.MethodName) prog_11_method_87_code (2 : Nat) (Option.some Jvm.ClassFile.FieldType.int)) ∈ cx_G := cx_t7 24 (by decide +kernel) rfl
theorem hw_1465 : (Jvm.Cond.methodLink "NamelessBoxModel" (322 : Nat) ({ cls := "NamelessBoxModel", name := "worths", desc := "(I)Z" } : Jvm.MethodName)) ∈ cx_G := cx_t7 25 (by decide +kernel) rfl
theorem hw_1467 : (Jvm.Cond.instanceMethod ({ cls := "NamelessBoxModel", name := "worths", desc := "(I)Z" } : Jvm.MethodName)) ∈ cx_G := cx_t7 27 (by decide +kernel) rfl
theorem hw_1468 : (Jvm.Cond.code ({ cls := "NamelessBoxModel", name := "worths", desc := "(I)Z" } : Jvm.MethodName) prog_11_method_85_code (5 : Nat) (Option.some Jvm.ClassFile.FieldType.boolean)) ∈ cx_G := cx_t7 28 (by decide +kernel) rfl
theorem hw_1469 : (Jvm.Cond.methodLink "NamelessBoxModel" (319 : Nat) ({ cls := "NamelessBoxModel", name := "addsGreatest", desc := "(II)V" } : Jvm.MethodName)) ∈ cx_G := cx_t7 29 (by decide +kernel) rfl
theorem hw_1471 : (Jvm.Cond.instanceMethod ({ cls := "NamelessBoxModel", name := "addsGreatest", desc := "(II)V" } : Jvm.MethodName)) ∈ cx_G := cx_t7 31 (by decide +kernel) rfl
theorem hw_1472 : (Jvm.Cond.code ({ cls := "NamelessBoxModel", name := "addsGreatest", desc := "(II)V" } : Jvm.MethodName) prog_11_method_84_code (6 : Nat) (Option.none : Option Jvm.ClassFile.FieldType)) ∈ cx_G := cx_t7 32 (by decide +kernel) rfl
theorem hw_1473 : (Jvm.Cond.methodLink "NamelessBoxModel" (316 : Nat) ({ cls := "NamelessBoxModel", name := "truthAbout", desc := "(I)I" } : Jvm.MethodName)) ∈ cx_G := cx_t7 33 (by decide +kernel) rfl
theorem hw_1475 : (Jvm.Cond.instanceMethod ({ cls := "NamelessBoxModel", name := "truthAbout", desc := "(I)I" } : Jvm.MethodName)) ∈ cx_G := cx_t7 35 (by decide +kernel) rfl
theorem hw_1476 : (Jvm.Cond.code ({ cls := "NamelessBoxModel", name := "truthAbout", desc := "(I)I" } : Jvm.MethodName) prog_11_method_83_code (2 : Nat) (Option.some Jvm.ClassFile.FieldType.int)) ∈ cx_G := cx_t7 36 (by decide +kernel) rfl
theorem hw_1477 : (Jvm.Cond.methodLink "NamelessBoxModel" (325 : Nat) ({ cls := "NamelessBoxModel", name := "tellsWorth", desc := "(I)I" } : Jvm.MethodName)) ∈ cx_G := cx_t7 37 (by decide +kernel) rfl
theorem hw_1479 : (Jvm.Cond.instanceMethod ({ cls := "NamelessBoxModel", name := "tellsWorth", desc := "(I)I" } : Jvm.MethodName)) ∈ cx_G := cx_t7 39 (by decide +kernel) rfl
theorem hw_1480 : (Jvm.Cond.code ({ cls := "NamelessBoxModel", name := "tellsWorth", desc := "(I)I" } : Jvm.MethodName) prog_11_method_86_code (2 : Nat) (Option.some Jvm.ClassFile.FieldType.int)) ∈ cx_G := cx_t7 40 (by decide +kernel) rfl
theorem hw_1481 : (Jvm.Cond.methodLink "NamelessBoxLaw" (149 : Nat) ({ cls := "NamelessBoxModel", name := "next", desc := "()I" } : Jvm.MethodName)) ∈ cx_G := cx_t7 41 (by decide +kernel) rfl
theorem hw_1482 : (Jvm.Cond.instanceMethod ({ cls := "NamelessBoxModel", name := "next", desc := "()I" } : Jvm.MethodName)) ∈ cx_G := cx_t7 42 (by decide +kernel) rfl
theorem hw_1483 : (Jvm.Cond.selects "NamelessBoxModel" ({ cls := "NamelessBoxModel", name := "next", desc := "()I" } : Jvm.MethodName) ({ cls := "NamelessBoxModel", name := "next", desc := "()I" } : Jvm.MethodName)) ∈ cx_G := cx_t7 43 (by decide +kernel) rfl
theorem hw_1484 : (Jvm.Cond.code ({ cls := "NamelessBoxModel", name := "next", desc := "()I" } : Jvm.MethodName) prog_11_method_88_code (3 : Nat) (Option.some Jvm.ClassFile.FieldType.int)) ∈ cx_G := cx_t7 44 (by decide +kernel) rfl
theorem hw_1485 : (Jvm.Cond.methodLink "NamelessBoxLaw" (153 : Nat) ({ cls := "NamelessBoxModel", name := "sign", desc := "(I)I" } : Jvm.MethodName)) ∈ cx_G := cx_t7 45 (by decide +kernel) rfl
theorem hw_1486 : (Jvm.Cond.instanceMethod ({ cls := "NamelessBoxModel", name := "sign", desc := "(I)I" } : Jvm.MethodName)) ∈ cx_G := cx_t7 46 (by decide +kernel) rfl
theorem hw_1487 : (Jvm.Cond.selects "NamelessBoxModel" ({ cls := "NamelessBoxModel", name := "sign", desc := "(I)I" } : Jvm.MethodName) ({ cls := "NamelessBoxModel", name := "sign", desc := "(I)I" } : Jvm.MethodName)) ∈ cx_G := cx_t7 47 (by decide +kernel) rfl
theorem hw_1488 : (Jvm.Cond.code ({ cls := "NamelessBoxModel", name := "sign", desc := "(I)I" } : Jvm.MethodName) prog_11_method_90_code (2 : Nat) (Option.some Jvm.ClassFile.FieldType.int)) ∈ cx_G := cx_t7 48 (by decide +kernel) rfl
theorem hw_1489 : (Jvm.Cond.methodLink "NamelessBoxModel" (328 : Nat) ({ cls := "NamelessBoxModel", name := "signNow", desc := "()I" } : Jvm.MethodName)) ∈ cx_G := cx_t7 49 (by decide +kernel) rfl
theorem hw_1491 : (Jvm.Cond.instanceMethod ({ cls := "NamelessBoxModel", name := "signNow", desc := "()I" } : Jvm.MethodName)) ∈ cx_G := cx_t7 51 (by decide +kernel) rfl
theorem hw_1492 : (Jvm.Cond.code ({ cls := "NamelessBoxModel", name := "signNow", desc := "()I" } : Jvm.MethodName) prog_11_method_89_code (1 : Nat) (Option.some Jvm.ClassFile.FieldType.int)) ∈ cx_G := cx_t7 52 (by decide +kernel) rfl
theorem hw_1493 : (Jvm.Cond.methodLink "NamelessBoxLaw" (157 : Nat) ({ cls := "NamelessBoxModel", name := "limb", desc := "(II)I" } : Jvm.MethodName)) ∈ cx_G := cx_t7 53 (by decide +kernel) rfl
theorem hw_1494 : (Jvm.Cond.instanceMethod ({ cls := "NamelessBoxModel", name := "limb", desc := "(II)I" } : Jvm.MethodName)) ∈ cx_G := cx_t7 54 (by decide +kernel) rfl
theorem hw_1495 : (Jvm.Cond.selects "NamelessBoxModel" ({ cls := "NamelessBoxModel", name := "limb", desc := "(II)I" } : Jvm.MethodName) ({ cls := "NamelessBoxModel", name := "limb", desc := "(II)I" } : Jvm.MethodName)) ∈ cx_G := cx_t7 55 (by decide +kernel) rfl
theorem hw_1496 : (Jvm.Cond.code ({ cls := "NamelessBoxModel", name := "limb", desc := "(II)I" } : Jvm.MethodName) prog_11_method_91_code (3 : Nat) (Option.some Jvm.ClassFile.FieldType.int)) ∈ cx_G := cx_t7 56 (by decide +kernel) rfl
theorem hw_1497 : (Jvm.Cond.methodLink "NamelessBoxLaw" (161 : Nat) ({ cls := "NamelessBoxModel", name := "image", desc := "(I)I" } : Jvm.MethodName)) ∈ cx_G := cx_t7 57 (by decide +kernel) rfl
theorem hw_1498 : (Jvm.Cond.instanceMethod ({ cls := "NamelessBoxModel", name := "image", desc := "(I)I" } : Jvm.MethodName)) ∈ cx_G := cx_t7 58 (by decide +kernel) rfl
theorem hw_1499 : (Jvm.Cond.selects "NamelessBoxModel" ({ cls := "NamelessBoxModel", name := "image", desc := "(I)I" } : Jvm.MethodName) ({ cls := "NamelessBoxModel", name := "image", desc := "(I)I" } : Jvm.MethodName)) ∈ cx_G := cx_t7 59 (by decide +kernel) rfl
theorem hw_1500 : (Jvm.Cond.code ({ cls := "NamelessBoxModel", name := "image", desc := "(I)I" } : Jvm.MethodName) prog_11_method_92_code (3 : Nat) (Option.some Jvm.ClassFile.FieldType.int)) ∈ cx_G := cx_t7 60 (by decide +kernel) rfl
theorem hw_1501 : (Jvm.Cond.methodLink "NamelessBoxLaw" (165 : Nat) ({ cls := "NamelessBoxModel", name := "from", desc := "(I)I" } : Jvm.MethodName)) ∈ cx_G := cx_t7 61 (by decide +kernel) rfl
theorem hw_1502 : (Jvm.Cond.instanceMethod ({ cls := "NamelessBoxModel", name := "from", desc := "(I)I" } : Jvm.MethodName)) ∈ cx_G := cx_t7 62 (by decide +kernel) rfl
theorem hw_1503 : (Jvm.Cond.selects "NamelessBoxModel" ({ cls := "NamelessBoxModel", name := "from", desc := "(I)I" } : Jvm.MethodName) ({ cls := "NamelessBoxModel", name := "from", desc := "(I)I" } : Jvm.MethodName)) ∈ cx_G := cx_t7 63 (by decide +kernel) rfl
theorem hw_1504 : (Jvm.Cond.code ({ cls := "NamelessBoxModel", name := "from", desc := "(I)I" } : Jvm.MethodName) prog_11_method_93_code (3 : Nat) (Option.some Jvm.ClassFile.FieldType.int)) ∈ cx_G := cx_t7 64 (by decide +kernel) rfl
theorem hw_1505 : (Jvm.Cond.methodLink "NamelessBoxLaw" (169 : Nat) ({ cls := "NamelessBoxModel", name := "status", desc := "(I)I" } : Jvm.MethodName)) ∈ cx_G := cx_t7 65 (by decide +kernel) rfl
theorem hw_1506 : (Jvm.Cond.instanceMethod ({ cls := "NamelessBoxModel", name := "status", desc := "(I)I" } : Jvm.MethodName)) ∈ cx_G := cx_t7 66 (by decide +kernel) rfl
theorem hw_1507 : (Jvm.Cond.selects "NamelessBoxModel" ({ cls := "NamelessBoxModel", name := "status", desc := "(I)I" } : Jvm.MethodName) ({ cls := "NamelessBoxModel", name := "status", desc := "(I)I" } : Jvm.MethodName)) ∈ cx_G := cx_t7 67 (by decide +kernel) rfl
theorem hw_1508 : (Jvm.Cond.code ({ cls := "NamelessBoxModel", name := "status", desc := "(I)I" } : Jvm.MethodName) prog_11_method_94_code (2 : Nat) (Option.some Jvm.ClassFile.FieldType.int)) ∈ cx_G := cx_t7 68 (by decide +kernel) rfl
theorem hw_1509 : (Jvm.Cond.constantLong "NamelessBoxModel" (331 : Nat) (2 : Int64)) ∈ cx_G := cx_t7 69 (by decide +kernel) rfl
theorem hw_1510 : (Jvm.Cond.methodLink "NamelessBoxLaw" (173 : Nat) ({ cls := "NamelessBoxModel", name := "count", desc := "(I)I" } : Jvm.MethodName)) ∈ cx_G := cx_t7 70 (by decide +kernel) rfl
theorem hw_1511 : (Jvm.Cond.instanceMethod ({ cls := "NamelessBoxModel", name := "count", desc := "(I)I" } : Jvm.MethodName)) ∈ cx_G := cx_t7 71 (by decide +kernel) rfl
theorem hw_1512 : (Jvm.Cond.selects "NamelessBoxModel" ({ cls := "NamelessBoxModel", name := "count", desc := "(I)I" } : Jvm.MethodName) ({ cls := "NamelessBoxModel", name := "count", desc := "(I)I" } : Jvm.MethodName)) ∈ cx_G := cx_t7 72 (by decide +kernel) rfl
theorem hw_1513 : (Jvm.Cond.code ({ cls := "NamelessBoxModel", name := "count", desc := "(I)I" } : Jvm.MethodName) prog_11_method_96_code (2 : Nat) (Option.some Jvm.ClassFile.FieldType.int)) ∈ cx_G := cx_t7 73 (by decide +kernel) rfl
theorem hw_1514 : (Jvm.Cond.methodLink "NamelessBoxModel" (333 : Nat) ({ cls := "NamelessBoxModel", name := "countOf", desc := "(I)I" } : Jvm.MethodName)) ∈ cx_G := cx_t7 74 (by decide +kernel) rfl
theorem hw_1516 : (Jvm.Cond.instanceMethod ({ cls := "NamelessBoxModel", name := "countOf", desc := "(I)I" } : Jvm.MethodName)) ∈ cx_G := cx_t7 76 (by decide +kernel) rfl
theorem hw_1517 : (Jvm.Cond.code ({ cls := "NamelessBoxModel", name := "countOf", desc := "(I)I" } : Jvm.MethodName) prog_11_method_95_code (2 : Nat) (Option.some Jvm.ClassFile.FieldType.int)) ∈ cx_G := cx_t7 77 (by decide +kernel) rfl
theorem hw_1518 : (Jvm.Cond.methodLink "NamelessBoxLaw" (178 : Nat) ({ cls := "NamelessBoxModel", name := "digest", desc := "()J" } : Jvm.MethodName)) ∈ cx_G := cx_t7 78 (by decide +kernel) rfl
theorem hw_1519 : (Jvm.Cond.instanceMethod ({ cls := "NamelessBoxModel", name := "digest", desc := "()J" } : Jvm.MethodName)) ∈ cx_G := cx_t7 79 (by decide +kernel) rfl
theorem hw_1520 : (Jvm.Cond.selects "NamelessBoxModel" ({ cls := "NamelessBoxModel", name := "digest", desc := "()J" } : Jvm.MethodName) ({ cls := "NamelessBoxModel", name := "digest", desc := "()J" } : Jvm.MethodName)) ∈ cx_G := cx_t7 80 (by decide +kernel) rfl
theorem hw_1521 : (Jvm.Cond.code ({ cls := "NamelessBoxModel", name := "digest", desc := "()J" } : Jvm.MethodName) prog_11_method_98_code (5 : Nat) (Option.some Jvm.ClassFile.FieldType.long)) ∈ cx_G := cx_t7 81 (by decide +kernel) rfl
theorem hw_1522 : (Jvm.Cond.constantLong "NamelessBoxModel" (338 : Nat) (661 : Int64)) ∈ cx_G := cx_t7 82 (by decide +kernel) rfl
theorem hw_1523 : (Jvm.Cond.constantLong "NamelessBoxModel" (336 : Nat) (31 : Int64)) ∈ cx_G := cx_t7 83 (by decide +kernel) rfl
theorem hw_1524 : (Jvm.Cond.methodLink "NamelessBoxModel" (340 : Nat) ({ cls := "NamelessBoxModel", name := "mixed", desc := "(JII)J" } : Jvm.MethodName)) ∈ cx_G := cx_t7 84 (by decide +kernel) rfl
theorem hw_1526 : (Jvm.Cond.instanceMethod ({ cls := "NamelessBoxModel", name := "mixed", desc := "(JII)J" } : Jvm.MethodName)) ∈ cx_G := cx_t7 86 (by decide +kernel) rfl
theorem hw_1527 : (Jvm.Cond.code ({ cls := "NamelessBoxModel", name := "mixed", desc := "(JII)J" } : Jvm.MethodName) prog_11_method_97_code (8 : Nat) (Option.some Jvm.ClassFile.FieldType.long)) ∈ cx_G := cx_t7 87 (by decide +kernel) rfl
theorem hw_1528 : (Jvm.Cond.constantLong "NamelessBoxLaw" (62 : Nat) (4294967295 : Int64)) ∈ cx_G := cx_t7 88 (by decide +kernel) rfl
theorem hw_1529 : (Jvm.Cond.fieldLink "java/lang/String" (9 : Nat) "java/lang/String" "value" "[B") ∈ cx_G := cx_t7 89 (by decide +kernel) rfl
theorem hw_1530 : (Jvm.Cond.fieldLink "java/lang/String" (15 : Nat) "java/lang/String" "coder" "B") ∈ cx_G := cx_t7 90 (by decide +kernel) rfl
