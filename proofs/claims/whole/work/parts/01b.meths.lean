def mtY : Nat → MethodName
  | 0 => ⟨"BlindPost", "<init>", "()V"⟩
  | 1 => ⟨"BlindPost", "row", "(II)I"⟩
  | 2 => ⟨"BlindPost", "lay", "(III)I"⟩
  | 3 => ⟨"BlindPost", "at", "(II)I"⟩
  | 4 => ⟨"BlindPost", "tear", "(I)I"⟩
  | 5 => ⟨"BlindPost", "copy", "(IIIII)I"⟩
  | 6 => ⟨"BlindPost", "mean", "(I)I"⟩
  | 7 => ⟨"BlindPost", "text", "(II)I"⟩
  | 8 => ⟨"BlindPost", "put", "(III)I"⟩
  | 9 => ⟨"BlindPost", "fault", "(I)I"⟩
  | 10 => ⟨"BlindPost", "land", "(I)I"⟩
  | 11 => ⟨"BlindPost", "hand", "(II)I"⟩
  | 12 => ⟨"BlindPost", "mark", "(II)I"⟩
  | 13 => ⟨"BlindPost", "teach", "(III)I"⟩
  | 14 => ⟨"BlindPost", "meet", "(III)I"⟩
  | 15 => ⟨"BlindPost", "off", "(I)I"⟩
  | 16 => ⟨"BlindPost", "may", "(II)I"⟩
  | 17 => ⟨"BlindPost", "meets", "(II)I"⟩
  | 18 => ⟨"BlindPost", "send", "(III)I"⟩
  | 19 => ⟨"BlindPost", "give", "(II)I"⟩
  | 20 => ⟨"BlindPost", "hours", "(I)I"⟩
  | 21 => ⟨"BlindPost", "where", "(I)I"⟩
  | 22 => ⟨"BlindPost", "hands", "(II)I"⟩
  | 23 => ⟨"BlindPost", "back", "(I)I"⟩
  | 24 => ⟨"BlindPost", "keep", "(I)I"⟩
  | 25 => ⟨"BlindPost", "on", "(I)I"⟩
  | 26 => ⟨"BlindPost", "soon", "(IIII)I"⟩
  | 27 => ⟨"BlindPost", "way", "(IIII)I"⟩
  | 28 => ⟨"BlindPost", "tongue", "(III)I"⟩
  | 29 => ⟨"BlindPost", "parts", "(IIII)I"⟩
  | 30 => ⟨"BlindPost", "apart", "(III)I"⟩
  | 31 => ⟨"BlindPost", "needs", "(III)I"⟩
  | 32 => ⟨"BlindPost", "forget", "(III)I"⟩
  | 33 => ⟨"BlindPost", "reach", "(II)I"⟩
  | 34 => ⟨"BlindPost", "cutOff", "()I"⟩
  | 35 => ⟨"BlindPost", "taught", "(II)I"⟩
  | 36 => ⟨"BlindPost", "best", "()I"⟩
  | 37 => ⟨"BlindPost", "worth", "(I)I"⟩
  | 38 => ⟨"BlindPost", "fewest", "()I"⟩
  | 39 => ⟨"BlindPost", "reader", "(I)I"⟩
  | 40 => ⟨"BlindPost", "readers", "(I)I"⟩
  | 41 => ⟨"BlindPost", "knows", "(I)I"⟩
  | 42 => ⟨"BlindPost", "days", "(II)I"⟩
  | 43 => ⟨"BlindPost", "asked", "()I"⟩
  | 44 => ⟨"BlindPost", "upper", "()J"⟩
  | 45 => ⟨"BlindPost", "lower", "()J"⟩
  | 46 => ⟨"BlindPost", "count", "(I)I"⟩
  | 47 => ⟨"BlindPost", "finding", "()I"⟩
  | 48 => ⟨"BlindPost", "findings", "(I)I"⟩
  | 49 => ⟨"BlindPost", "digest", "()J"⟩
  | 50 => ⟨"BlindPost", "found", "(I)I"⟩
  | 51 => ⟨"BlindPost", "tell", "(I)I"⟩
  | 52 => ⟨"BlindPost", "noRow", "(I)Z"⟩
  | 53 => ⟨"BlindPost", "noText", "(I)Z"⟩
  | 54 => ⟨"BlindPost", "noPlace", "(I)Z"⟩
  | 55 => ⟨"BlindPost", "noTongue", "(I)Z"⟩
  | 56 => ⟨"BlindPost", "noTongues", "(I)Z"⟩
  | 57 => ⟨"BlindPost", "noHour", "(I)Z"⟩
  | 58 => ⟨"BlindPost", "noPair", "(II)Z"⟩
  | 59 => ⟨"BlindPost", "sheetsThere", "([LBlindPost$Sheet;)I"⟩
  | 60 => ⟨"BlindPost", "landsKept", "()I"⟩
  | 61 => ⟨"BlindPost", "refusedPairs", "(I)I"⟩
  | 62 => ⟨"BlindPost", "readsSo", "(LBlindPost$Sheet;I)Z"⟩
  | 63 => ⟨"BlindPost", "commonDivisor", "(II)I"⟩
  | 64 => ⟨"BlindPost", "bit", "(I)I"⟩
  | 65 => ⟨"BlindPost", "has", "(II)Z"⟩
  | 66 => ⟨"BlindPost", "memberAt", "(II)I"⟩
  | 67 => ⟨"BlindPost", "isOf", "(II)Z"⟩
  | 68 => ⟨"BlindPost", "kindBy", "(I)I"⟩
  | 69 => ⟨"BlindPost", "withNeighbours", "(I)I"⟩
  | 70 => ⟨"BlindPostModel", "<init>", "()V"⟩
  | 71 => ⟨"BlindPostModel", "in", "(III)Z"⟩
  | 72 => ⟨"BlindPostModel", "meetWith", "(I)I"⟩
  | 73 => ⟨"BlindPostModel", "ask", "(II)I"⟩
  | 74 => ⟨"BlindPostModel", "has", "(II)Z"⟩
  | 75 => ⟨"BlindPostModel", "sizeOf", "(I)I"⟩
  | 76 => ⟨"BlindPostModel", "isRow", "(I)Z"⟩
  | 77 => ⟨"BlindPostModel", "isText", "(I)Z"⟩
  | 78 => ⟨"BlindPostModel", "askedRow", "(I)I"⟩
  | 79 => ⟨"BlindPostModel", "askedText", "(I)I"⟩
  | 80 => ⟨"BlindPostModel", "rowAt", "(II)I"⟩
  | 81 => ⟨"BlindPostModel", "setRow", "(III)V"⟩
  | 82 => ⟨"BlindPostModel", "row", "(II)I"⟩
  | 83 => ⟨"BlindPostModel", "at", "(II)I"⟩
  | 84 => ⟨"BlindPostModel", "lay", "(III)I"⟩
  | 85 => ⟨"BlindPostModel", "tear", "(I)I"⟩
  | 86 => ⟨"BlindPostModel", "copy", "(IIIII)I"⟩
  | 87 => ⟨"BlindPostModel", "mean", "(I)I"⟩
  | 88 => ⟨"BlindPostModel", "text", "(II)I"⟩
  | 89 => ⟨"BlindPostModel", "put", "(III)I"⟩
  | 90 => ⟨"BlindPostModel", "here", "(I)I"⟩
  | 91 => ⟨"BlindPostModel", "kindOf", "(I)I"⟩
  | 92 => ⟨"BlindPostModel", "readsHand", "(I)Z"⟩
  | 93 => ⟨"BlindPostModel", "readsMeeting", "(I)Z"⟩
  | 94 => ⟨"BlindPostModel", "goesOn", "(I)I"⟩
  | 95 => ⟨"BlindPostModel", "fault", "(I)I"⟩
  | 96 => ⟨"BlindPostModel", "land", "(I)I"⟩
  | 97 => ⟨"BlindPostModel", "isOne", "(I)Z"⟩
  | 98 => ⟨"BlindPostModel", "areTwo", "(II)Z"⟩
  | 99 => ⟨"BlindPostModel", "isTongue", "(I)Z"⟩
  | 100 => ⟨"BlindPostModel", "isSet", "(I)Z"⟩
  | 101 => ⟨"BlindPostModel", "isA", "(II)Z"⟩
  | 102 => ⟨"BlindPostModel", "barsOf", "(I)I"⟩
  | 103 => ⟨"BlindPostModel", "mayCarry", "(II)Z"⟩
  | 104 => ⟨"BlindPostModel", "metBy", "(II)I"⟩
  | 105 => ⟨"BlindPostModel", "letterOf", "(II)I"⟩
  | 106 => ⟨"BlindPostModel", "holderOf", "(I)I"⟩
  | 107 => ⟨"BlindPostModel", "isThere", "(I)Z"⟩
  | 108 => ⟨"BlindPostModel", "handOf", "(II)I"⟩
  | 109 => ⟨"BlindPostModel", "hand", "(II)I"⟩
  | 110 => ⟨"BlindPostModel", "givenOn", "(I)I"⟩
  | 111 => ⟨"BlindPostModel", "mark", "(II)I"⟩
  | 112 => ⟨"BlindPostModel", "teach", "(III)I"⟩
  | 113 => ⟨"BlindPostModel", "meet", "(III)I"⟩
  | 114 => ⟨"BlindPostModel", "off", "(I)I"⟩
  | 115 => ⟨"BlindPostModel", "may", "(II)I"⟩
  | 116 => ⟨"BlindPostModel", "meets", "(II)I"⟩
  | 117 => ⟨"BlindPostModel", "writes", "(III)Z"⟩
  | 118 => ⟨"BlindPostModel", "send", "(III)I"⟩
  | 119 => ⟨"BlindPostModel", "hadBy", "(I)I"⟩
  | 120 => ⟨"BlindPostModel", "takes", "(III)Z"⟩
  | 121 => ⟨"BlindPostModel", "givable", "(I)I"⟩
  | 122 => ⟨"BlindPostModel", "giveTo", "(II)I"⟩
  | 123 => ⟨"BlindPostModel", "askedLetter", "(I)I"⟩
  | 124 => ⟨"BlindPostModel", "give", "(II)I"⟩
  | 125 => ⟨"BlindPostModel", "hours", "(I)I"⟩
  | 126 => ⟨"BlindPostModel", "where", "(I)I"⟩
  | 127 => ⟨"BlindPostModel", "hands", "(II)I"⟩
  | 128 => ⟨"BlindPostModel", "back", "(I)I"⟩
  | 129 => ⟨"BlindPostModel", "keep", "(I)I"⟩
  | 130 => ⟨"BlindPostModel", "on", "(I)I"⟩
  | 131 => ⟨"BlindPostModel", "soonOf", "(IIII)I"⟩
  | 132 => ⟨"BlindPostModel", "isAsk", "(III)Z"⟩
  | 133 => ⟨"BlindPostModel", "soon", "(IIII)I"⟩
  | 134 => ⟨"BlindPostModel", "costOf", "(II)I"⟩
  | 135 => ⟨"BlindPostModel", "meetWay", "(III)V"⟩
  | 136 => ⟨"BlindPostModel", "wayOn", "(IIIIIZ)V"⟩
  | 137 => ⟨"BlindPostModel", "setWays", "(IIIZ)V"⟩
  | 138 => ⟨"BlindPostModel", "way", "(IIII)I"⟩
  | 139 => ⟨"BlindPostModel", "tongue", "(III)I"⟩
  | 140 => ⟨"BlindPostModel", "parts", "(IIII)I"⟩
  | 141 => ⟨"BlindPostModel", "packOn", "(II)I"⟩
  | 142 => ⟨"BlindPostModel", "apart", "(III)I"⟩
  | 143 => ⟨"BlindPostModel", "needs", "(III)I"⟩
  | 144 => ⟨"BlindPostModel", "forget", "(III)I"⟩
  | 145 => ⟨"BlindPostModel", "isWayIn", "(III)Z"⟩
  | 146 => ⟨"BlindPostModel", "reach", "(II)I"⟩
  | 147 => ⟨"BlindPostModel", "tonguesOf", "(II)I"⟩
  | 148 => ⟨"BlindPostModel", "cutNow", "()I"⟩
  | 149 => ⟨"BlindPostModel", "cutOff", "()I"⟩
  | 150 => ⟨"BlindPostModel", "cutIf", "(II)I"⟩
  | 151 => ⟨"BlindPostModel", "taught", "(II)I"⟩
  | 152 => ⟨"BlindPostModel", "best", "()I"⟩
  | 153 => ⟨"BlindPostModel", "worth", "(I)I"⟩
  | 154 => ⟨"BlindPostModel", "fewest", "()I"⟩
  | 155 => ⟨"BlindPostModel", "askedPairs", "(I)I"⟩
  | 156 => ⟨"BlindPostModel", "isRead", "(II)Z"⟩
  | 157 => ⟨"BlindPostModel", "reader", "(I)I"⟩
  | 158 => ⟨"BlindPostModel", "readers", "(I)I"⟩
  | 159 => ⟨"BlindPostModel", "knows", "(I)I"⟩
  | 160 => ⟨"BlindPostModel", "days", "(II)I"⟩
  | 161 => ⟨"BlindPostModel", "asked", "()I"⟩
  | 162 => ⟨"BlindPostModel", "divisor", "(II)I"⟩
  | 163 => ⟨"BlindPostModel", "upper", "()J"⟩
  | 164 => ⟨"BlindPostModel", "lower", "()J"⟩
  | 165 => ⟨"BlindPostModel", "tells", "(I)I"⟩
  | 166 => ⟨"BlindPostModel", "count", "(I)I"⟩
  | 167 => ⟨"BlindPostModel", "finding", "()I"⟩
  | 168 => ⟨"BlindPostModel", "findings", "(I)I"⟩
  | 169 => ⟨"BlindPostModel", "mix", "(I)V"⟩
  | 170 => ⟨"BlindPostModel", "mixLand", "()V"⟩
  | 171 => ⟨"BlindPostModel", "digest", "()J"⟩
  | 172 => ⟨"BlindPost$Land", "<init>", "()V"⟩
  | 173 => ⟨"BlindPost$Land", "clear", "()V"⟩
  | 174 => ⟨"BlindPost$Land", "takeFrom", "(LBlindPost$Land;)V"⟩
  | 175 => ⟨"BlindPost$Land", "lacks", "(I)Z"⟩
  | 176 => ⟨"BlindPost$Land", "addHand", "(I)V"⟩
  | 177 => ⟨"BlindPost$Land", "addMeeting", "(III)V"⟩
  | 178 => ⟨"BlindPost$Land", "tie", "(III)V"⟩
  | 179 => ⟨"BlindPost$Land", "tieAll", "()V"⟩
  | 180 => ⟨"BlindPost$Land", "ofKind", "(I)I"⟩
  | 181 => ⟨"BlindPost$Land", "knowers", "(I)I"⟩
  | 182 => ⟨"BlindPost$Land", "bars", "(II)I"⟩
  | 183 => ⟨"BlindPost$Land", "carries", "(II)Z"⟩
  | 184 => ⟨"BlindPost$Land", "takers", "(LBlindPost$Letter;)I"⟩
  | 185 => ⟨"BlindPost$Land", "takesBetween", "(ILBlindPost$Letter;)Z"⟩
  | 186 => ⟨"BlindPost$Land", "pass", "(LBlindPost$Letter;I)Z"⟩
  | 187 => ⟨"BlindPost$Land", "goBy", "(II)I"⟩
  | 188 => ⟨"BlindPost$Land", "factOf", "(II)I"⟩
  | 189 => ⟨"BlindPost$Land", "meetingsOf", "(I)I"⟩
  | 190 => ⟨"BlindPost$Land", "lettersWith", "(I)I"⟩
  | 191 => ⟨"BlindPost$Land", "lettersThere", "()I"⟩
  | 192 => ⟨"BlindPost$Land", "markOf", "(II)I"⟩
  | 193 => ⟨"BlindPost$Land", "lettersGivenOnBy", "(I)I"⟩
  | 194 => ⟨"BlindPost$Land", "digestFrom", "(J)J"⟩
  | 195 => ⟨"BlindPost$Letter", "<init>", "()V"⟩
  | 196 => ⟨"BlindPost$Letter", "start", "(IIII)V"⟩
  | 197 => ⟨"BlindPost$Letter", "takeFrom", "(LBlindPost$Letter;)V"⟩
  | 198 => ⟨"BlindPost$Letter", "holder", "()I"⟩
  | 199 => ⟨"BlindPost$Letter", "cameWhen", "()I"⟩
  | 200 => ⟨"BlindPost$Letter", "isThere", "()Z"⟩
  | 201 => ⟨"BlindPost$Letter", "isWithSender", "()Z"⟩
  | 202 => ⟨"BlindPost$Letter", "wasGivenIn", "(I)Z"⟩
  | 203 => ⟨"BlindPost$Letter", "seen", "()I"⟩
  | 204 => ⟨"BlindPost$Letter", "wasGivenOnBy", "(I)Z"⟩
  | 205 => ⟨"BlindPost$Letter", "add", "(II)V"⟩
  | 206 => ⟨"BlindPost$Pairs", "<init>", "(LBlindPost$Land;LBlindPost$Ways;)V"⟩
  | 207 => ⟨"BlindPost$Pairs", "writtenBy", "(II)I"⟩
  | 208 => ⟨"BlindPost$Pairs", "reachedBy", "(II)I"⟩
  | 209 => ⟨"BlindPost$Pairs", "tally", "()V"⟩
  | 210 => ⟨"BlindPost$Pairs", "cutIfKnown", "(II)I"⟩
  | 211 => ⟨"BlindPost$Pairs", "lostWithout", "(I)I"⟩
  | 212 => ⟨"BlindPost$Pairs", "leastTongues", "()I"⟩
  | 213 => ⟨"BlindPost$Pairs", "choicesOfPairs", "()I"⟩
  | 214 => ⟨"BlindPost$Pairs", "tonguesTo", "(I)I"⟩
  | 215 => ⟨"BlindPost$Pairs", "meetsEach", "(II)Z"⟩
  | 216 => ⟨"BlindPost$Reading", "<init>", "(LBlindPost$Land;)V"⟩
  | 217 => ⟨"BlindPost$Reading", "faultOf", "(LBlindPost$Sheet;)I"⟩
  | 218 => ⟨"BlindPost$Reading", "takes", "(I)Z"⟩
  | 219 => ⟨"BlindPost$Reading", "takesStart", "(I)Z"⟩
  | 220 => ⟨"BlindPost$Reading", "takesTongue", "(I)Z"⟩
  | 221 => ⟨"BlindPost$Reading", "takesOne", "(I)Z"⟩
  | 222 => ⟨"BlindPost$Reading", "takesOther", "(I)Z"⟩
  | 223 => ⟨"BlindPost$Reading", "takesTime", "(I)Z"⟩
  | 224 => ⟨"BlindPost$Sheet", "<init>", "(I)V"⟩
  | 225 => ⟨"BlindPost$Sheet", "isThere", "()Z"⟩
  | 226 => ⟨"BlindPost$Sheet", "lackAt", "(I)I"⟩
  | 227 => ⟨"BlindPost$Sheet", "spans", "(II)Z"⟩
  | 228 => ⟨"BlindPost$Sheet", "renew", "(II)V"⟩
  | 229 => ⟨"BlindPost$Sheet", "fill", "([II)V"⟩
  | 230 => ⟨"BlindPost$Sheet", "sum", "()J"⟩
  | 231 => ⟨"BlindPost$Sheet", "digestFrom", "(J)J"⟩
  | 232 => ⟨"BlindPost$Ways", "<init>", "(LBlindPost$Land;)V"⟩
  | 233 => ⟨"BlindPost$Ways", "carriers", "(I)I"⟩
  | 234 => ⟨"BlindPost$Ways", "endsFrom", "(II)I"⟩
  | 235 => ⟨"BlindPost$Ways", "metByAny", "(I)I"⟩
  | 236 => ⟨"BlindPost$Ways", "soonest", "(IIII)I"⟩
  | 237 => ⟨"BlindPost$Ways", "mostApart", "(III)I"⟩
  | 238 => ⟨"BlindPost$Ways", "leadsOver", "(III)Z"⟩
  | 239 => ⟨"BlindPost$Ways", "priceAsTheyAre", "(I)V"⟩
  | 240 => ⟨"BlindPost$Ways", "priceByForgetting", "(I)V"⟩
  | 241 => ⟨"BlindPost$Ways", "find", "(II)Z"⟩
  | 242 => ⟨"BlindPost$Ways", "weighAhead", "(II)V"⟩
  | 243 => ⟨"BlindPost$Ways", "leadsOn", "(III)Z"⟩
  | 244 => ⟨"BlindPost$Ways", "weightBy", "(I)I"⟩
  | 245 => ⟨"BlindPost$Ways", "nextOn", "(III)I"⟩
  | 246 => ⟨"BlindPost$Ways", "wholePrice", "()I"⟩
  | 247 => ⟨"BlindPost$Ways", "whoPay", "()I"⟩
  | 250 => ⟨"java/lang/Integer", "bitCount", "(I)I"⟩
  | 251 => ⟨"java/lang/Math", "max", "(II)I"⟩
  | 252 => ⟨"java/lang/Math", "min", "(II)I"⟩
  | 254 => ⟨"java/util/Arrays", "fill", "([II)V"⟩
  | _ => ⟨"", "", ""⟩
def mtC : Nat → ByteArray
  | 0 => prog_1_method_1_code
  | 1 => prog_1_method_2_code
  | 2 => prog_1_method_3_code
  | 3 => prog_1_method_4_code
  | 4 => prog_1_method_5_code
  | 5 => prog_1_method_6_code
  | 6 => prog_1_method_7_code
  | 7 => prog_1_method_8_code
  | 8 => prog_1_method_9_code
  | 9 => prog_1_method_10_code
  | 10 => prog_1_method_11_code
  | 11 => prog_1_method_12_code
  | 12 => prog_1_method_13_code
  | 13 => prog_1_method_14_code
  | 14 => prog_1_method_15_code
  | 15 => prog_1_method_16_code
  | 16 => prog_1_method_17_code
  | 17 => prog_1_method_18_code
  | 18 => prog_1_method_19_code
  | 19 => prog_1_method_20_code
  | 20 => prog_1_method_21_code
  | 21 => prog_1_method_22_code
  | 22 => prog_1_method_23_code
  | 23 => prog_1_method_24_code
  | 24 => prog_1_method_25_code
  | 25 => prog_1_method_26_code
  | 26 => prog_1_method_27_code
  | 27 => prog_1_method_28_code
  | 28 => prog_1_method_29_code
  | 29 => prog_1_method_30_code
  | 30 => prog_1_method_31_code
  | 31 => prog_1_method_32_code
  | 32 => prog_1_method_33_code
  | 33 => prog_1_method_34_code
  | 34 => prog_1_method_35_code
  | 35 => prog_1_method_36_code
  | 36 => prog_1_method_37_code
  | 37 => prog_1_method_38_code
  | 38 => prog_1_method_39_code
  | 39 => prog_1_method_40_code
  | 40 => prog_1_method_41_code
  | 41 => prog_1_method_42_code
  | 42 => prog_1_method_43_code
  | 43 => prog_1_method_44_code
  | 44 => prog_1_method_45_code
  | 45 => prog_1_method_46_code
  | 46 => prog_1_method_47_code
  | 47 => prog_1_method_48_code
  | 48 => prog_1_method_49_code
  | 49 => prog_1_method_50_code
  | 50 => prog_1_method_51_code
  | 51 => prog_1_method_52_code
  | 52 => prog_1_method_53_code
  | 53 => prog_1_method_54_code
  | 54 => prog_1_method_55_code
  | 55 => prog_1_method_56_code
  | 56 => prog_1_method_57_code
  | 57 => prog_1_method_58_code
  | 58 => prog_1_method_59_code
  | 59 => prog_1_method_60_code
  | 60 => prog_1_method_61_code
  | 61 => prog_1_method_62_code
  | 62 => prog_1_method_63_code
  | 63 => prog_1_method_64_code
  | 64 => prog_1_method_65_code
  | 65 => prog_1_method_66_code
  | 66 => prog_1_method_67_code
  | 67 => prog_1_method_68_code
  | 68 => prog_1_method_69_code
  | 69 => prog_1_method_70_code
  | 70 => prog_9_method_1_code
  | 71 => prog_9_method_3_code
  | 72 => prog_9_method_4_code
  | 73 => prog_9_method_5_code
  | 74 => prog_9_method_6_code
  | 75 => prog_9_method_7_code
  | 76 => prog_9_method_8_code
  | 77 => prog_9_method_9_code
  | 78 => prog_9_method_10_code
  | 79 => prog_9_method_11_code
  | 80 => prog_9_method_12_code
  | 81 => prog_9_method_13_code
  | 82 => prog_9_method_14_code
  | 83 => prog_9_method_15_code
  | 84 => prog_9_method_16_code
  | 85 => prog_9_method_17_code
  | 86 => prog_9_method_18_code
  | 87 => prog_9_method_19_code
  | 88 => prog_9_method_20_code
  | 89 => prog_9_method_21_code
  | 90 => prog_9_method_22_code
  | 91 => prog_9_method_23_code
  | 92 => prog_9_method_24_code
  | 93 => prog_9_method_25_code
  | 94 => prog_9_method_26_code
  | 95 => prog_9_method_27_code
  | 96 => prog_9_method_28_code
  | 97 => prog_9_method_29_code
  | 98 => prog_9_method_30_code
  | 99 => prog_9_method_31_code
  | 100 => prog_9_method_32_code
  | 101 => prog_9_method_33_code
  | 102 => prog_9_method_34_code
  | 103 => prog_9_method_35_code
  | 104 => prog_9_method_36_code
  | 105 => prog_9_method_37_code
  | 106 => prog_9_method_38_code
  | 107 => prog_9_method_39_code
  | 108 => prog_9_method_40_code
  | 109 => prog_9_method_41_code
  | 110 => prog_9_method_42_code
  | 111 => prog_9_method_43_code
  | 112 => prog_9_method_44_code
  | 113 => prog_9_method_45_code
  | 114 => prog_9_method_46_code
  | 115 => prog_9_method_47_code
  | 116 => prog_9_method_48_code
  | 117 => prog_9_method_49_code
  | 118 => prog_9_method_50_code
  | 119 => prog_9_method_51_code
  | 120 => prog_9_method_52_code
  | 121 => prog_9_method_53_code
  | 122 => prog_9_method_54_code
  | 123 => prog_9_method_55_code
  | 124 => prog_9_method_56_code
  | 125 => prog_9_method_57_code
  | 126 => prog_9_method_58_code
  | 127 => prog_9_method_59_code
  | 128 => prog_9_method_60_code
  | 129 => prog_9_method_61_code
  | 130 => prog_9_method_62_code
  | 131 => prog_9_method_63_code
  | 132 => prog_9_method_64_code
  | 133 => prog_9_method_65_code
  | 134 => prog_9_method_66_code
  | 135 => prog_9_method_67_code
  | 136 => prog_9_method_68_code
  | 137 => prog_9_method_69_code
  | 138 => prog_9_method_70_code
  | 139 => prog_9_method_71_code
  | 140 => prog_9_method_72_code
  | 141 => prog_9_method_73_code
  | 142 => prog_9_method_74_code
  | 143 => prog_9_method_75_code
  | 144 => prog_9_method_76_code
  | 145 => prog_9_method_77_code
  | 146 => prog_9_method_78_code
  | 147 => prog_9_method_79_code
  | 148 => prog_9_method_80_code
  | 149 => prog_9_method_81_code
  | 150 => prog_9_method_82_code
  | 151 => prog_9_method_83_code
  | 152 => prog_9_method_84_code
  | 153 => prog_9_method_85_code
  | 154 => prog_9_method_86_code
  | 155 => prog_9_method_87_code
  | 156 => prog_9_method_88_code
  | 157 => prog_9_method_89_code
  | 158 => prog_9_method_90_code
  | 159 => prog_9_method_91_code
  | 160 => prog_9_method_92_code
  | 161 => prog_9_method_93_code
  | 162 => prog_9_method_94_code
  | 163 => prog_9_method_95_code
  | 164 => prog_9_method_96_code
  | 165 => prog_9_method_97_code
  | 166 => prog_9_method_98_code
  | 167 => prog_9_method_99_code
  | 168 => prog_9_method_100_code
  | 169 => prog_9_method_101_code
  | 170 => prog_9_method_102_code
  | 171 => prog_9_method_103_code
  | 172 => prog_2_method_1_code
  | 173 => prog_2_method_2_code
  | 174 => prog_2_method_3_code
  | 175 => prog_2_method_4_code
  | 176 => prog_2_method_5_code
  | 177 => prog_2_method_6_code
  | 178 => prog_2_method_7_code
  | 179 => prog_2_method_8_code
  | 180 => prog_2_method_9_code
  | 181 => prog_2_method_10_code
  | 182 => prog_2_method_11_code
  | 183 => prog_2_method_12_code
  | 184 => prog_2_method_13_code
  | 185 => prog_2_method_14_code
  | 186 => prog_2_method_15_code
  | 187 => prog_2_method_16_code
  | 188 => prog_2_method_17_code
  | 189 => prog_2_method_18_code
  | 190 => prog_2_method_19_code
  | 191 => prog_2_method_20_code
  | 192 => prog_2_method_21_code
  | 193 => prog_2_method_22_code
  | 194 => prog_2_method_23_code
  | 195 => prog_3_method_1_code
  | 196 => prog_3_method_2_code
  | 197 => prog_3_method_3_code
  | 198 => prog_3_method_4_code
  | 199 => prog_3_method_5_code
  | 200 => prog_3_method_6_code
  | 201 => prog_3_method_7_code
  | 202 => prog_3_method_8_code
  | 203 => prog_3_method_9_code
  | 204 => prog_3_method_10_code
  | 205 => prog_3_method_11_code
  | 206 => prog_4_method_1_code
  | 207 => prog_4_method_2_code
  | 208 => prog_4_method_3_code
  | 209 => prog_4_method_4_code
  | 210 => prog_4_method_5_code
  | 211 => prog_4_method_6_code
  | 212 => prog_4_method_7_code
  | 213 => prog_4_method_8_code
  | 214 => prog_4_method_9_code
  | 215 => prog_4_method_10_code
  | 216 => prog_5_method_1_code
  | 217 => prog_5_method_2_code
  | 218 => prog_5_method_3_code
  | 219 => prog_5_method_4_code
  | 220 => prog_5_method_5_code
  | 221 => prog_5_method_6_code
  | 222 => prog_5_method_7_code
  | 223 => prog_5_method_8_code
  | 224 => prog_6_method_1_code
  | 225 => prog_6_method_2_code
  | 226 => prog_6_method_3_code
  | 227 => prog_6_method_4_code
  | 228 => prog_6_method_5_code
  | 229 => prog_6_method_6_code
  | 230 => prog_6_method_7_code
  | 231 => prog_6_method_8_code
  | 232 => prog_7_method_1_code
  | 233 => prog_7_method_2_code
  | 234 => prog_7_method_3_code
  | 235 => prog_7_method_4_code
  | 236 => prog_7_method_5_code
  | 237 => prog_7_method_6_code
  | 238 => prog_7_method_7_code
  | 239 => prog_7_method_8_code
  | 240 => prog_7_method_9_code
  | 241 => prog_7_method_10_code
  | 242 => prog_7_method_11_code
  | 243 => prog_7_method_12_code
  | 244 => prog_7_method_13_code
  | 245 => prog_7_method_14_code
  | 246 => prog_7_method_15_code
  | 247 => prog_7_method_16_code
  | 250 => prog_10_method_49_code
  | 251 => prog_11_method_65_code
  | 252 => prog_11_method_69_code
  | 254 => prog_13_method_103_code
  | _ => ⟨#[]⟩
def mtM : Nat → Nat
  | 0 => 2
  | 1 => 3
  | 2 => 6
  | 3 => 4
  | 4 => 2
  | 5 => 6
  | 6 => 3
  | 7 => 3
  | 8 => 6
  | 9 => 2
  | 10 => 3
  | 11 => 3
  | 12 => 3
  | 13 => 5
  | 14 => 4
  | 15 => 3
  | 16 => 3
  | 17 => 3
  | 18 => 4
  | 19 => 3
  | 20 => 2
  | 21 => 2
  | 22 => 3
  | 23 => 2
  | 24 => 2
  | 25 => 2
  | 26 => 5
  | 27 => 5
  | 28 => 9
  | 29 => 8
  | 30 => 4
  | 31 => 7
  | 32 => 4
  | 33 => 3
  | 34 => 1
  | 35 => 4
  | 36 => 6
  | 37 => 2
  | 38 => 1
  | 39 => 5
  | 40 => 6
  | 41 => 5
  | 42 => 3
  | 43 => 1
  | 44 => 1
  | 45 => 1
  | 46 => 2
  | 47 => 1
  | 48 => 2
  | 49 => 4
  | 50 => 2
  | 51 => 2
  | 52 => 1
  | 53 => 1
  | 54 => 1
  | 55 => 1
  | 56 => 1
  | 57 => 1
  | 58 => 3
  | 59 => 4
  | 60 => 3
  | 61 => 6
  | 62 => 4
  | 63 => 6
  | 64 => 1
  | 65 => 2
  | 66 => 4
  | 67 => 2
  | 68 => 1
  | 69 => 1
  | 70 => 2
  | 71 => 3
  | 72 => 2
  | 73 => 3
  | 74 => 2
  | 75 => 3
  | 76 => 1
  | 77 => 1
  | 78 => 2
  | 79 => 2
  | 80 => 3
  | 81 => 4
  | 82 => 4
  | 83 => 4
  | 84 => 5
  | 85 => 3
  | 86 => 7
  | 87 => 6
  | 88 => 4
  | 89 => 6
  | 90 => 2
  | 91 => 1
  | 92 => 5
  | 93 => 5
  | 94 => 2
  | 95 => 3
  | 96 => 4
  | 97 => 2
  | 98 => 3
  | 99 => 1
  | 100 => 1
  | 101 => 3
  | 102 => 3
  | 103 => 3
  | 104 => 6
  | 105 => 3
  | 106 => 2
  | 107 => 2
  | 108 => 5
  | 109 => 3
  | 110 => 5
  | 111 => 3
  | 112 => 5
  | 113 => 4
  | 114 => 3
  | 115 => 3
  | 116 => 3
  | 117 => 4
  | 118 => 5
  | 119 => 4
  | 120 => 4
  | 121 => 8
  | 122 => 5
  | 123 => 2
  | 124 => 4
  | 125 => 2
  | 126 => 3
  | 127 => 6
  | 128 => 3
  | 129 => 4
  | 130 => 4
  | 131 => 12
  | 132 => 4
  | 133 => 5
  | 134 => 4
  | 135 => 5
  | 136 => 10
  | 137 => 6
  | 138 => 6
  | 139 => 8
  | 140 => 8
  | 141 => 6
  | 142 => 4
  | 143 => 4
  | 144 => 6
  | 145 => 4
  | 146 => 5
  | 147 => 5
  | 148 => 4
  | 149 => 2
  | 150 => 5
  | 151 => 4
  | 152 => 6
  | 153 => 6
  | 154 => 7
  | 155 => 4
  | 156 => 5
  | 157 => 5
  | 158 => 6
  | 159 => 5
  | 160 => 11
  | 161 => 1
  | 162 => 5
  | 163 => 2
  | 164 => 2
  | 165 => 4
  | 166 => 2
  | 167 => 1
  | 168 => 2
  | 169 => 2
  | 170 => 3
  | 171 => 3
  | 172 => 2
  | 173 => 1
  | 174 => 3
  | 175 => 2
  | 176 => 2
  | 177 => 4
  | 178 => 4
  | 179 => 2
  | 180 => 4
  | 181 => 4
  | 182 => 3
  | 183 => 3
  | 184 => 5
  | 185 => 3
  | 186 => 4
  | 187 => 11
  | 188 => 3
  | 189 => 4
  | 190 => 4
  | 191 => 3
  | 192 => 3
  | 193 => 4
  | 194 => 7
  | 195 => 1
  | 196 => 5
  | 197 => 2
  | 198 => 1
  | 199 => 1
  | 200 => 1
  | 201 => 1
  | 202 => 2
  | 203 => 3
  | 204 => 3
  | 205 => 3
  | 206 => 3
  | 207 => 3
  | 208 => 4
  | 209 => 5
  | 210 => 4
  | 211 => 7
  | 212 => 4
  | 213 => 5
  | 214 => 4
  | 215 => 3
  | 216 => 2
  | 217 => 3
  | 218 => 3
  | 219 => 3
  | 220 => 2
  | 221 => 2
  | 222 => 2
  | 223 => 2
  | 224 => 2
  | 225 => 1
  | 226 => 2
  | 227 => 3
  | 228 => 4
  | 229 => 4
  | 230 => 4
  | 231 => 6
  | 232 => 2
  | 233 => 4
  | 234 => 10
  | 235 => 4
  | 236 => 12
  | 237 => 8
  | 238 => 7
  | 239 => 3
  | 240 => 3
  | 241 => 4
  | 242 => 6
  | 243 => 5
  | 244 => 2
  | 245 => 5
  | 246 => 3
  | 247 => 3
  | 250 => 1
  | 251 => 2
  | 252 => 2
  | 254 => 4
  | _ => 0
def mtR : Nat → Option FieldType
  | 0 => none
  | 1 => (some .int)
  | 2 => (some .int)
  | 3 => (some .int)
  | 4 => (some .int)
  | 5 => (some .int)
  | 6 => (some .int)
  | 7 => (some .int)
  | 8 => (some .int)
  | 9 => (some .int)
  | 10 => (some .int)
  | 11 => (some .int)
  | 12 => (some .int)
  | 13 => (some .int)
  | 14 => (some .int)
  | 15 => (some .int)
  | 16 => (some .int)
  | 17 => (some .int)
  | 18 => (some .int)
  | 19 => (some .int)
  | 20 => (some .int)
  | 21 => (some .int)
  | 22 => (some .int)
  | 23 => (some .int)
  | 24 => (some .int)
  | 25 => (some .int)
  | 26 => (some .int)
  | 27 => (some .int)
  | 28 => (some .int)
  | 29 => (some .int)
  | 30 => (some .int)
  | 31 => (some .int)
  | 32 => (some .int)
  | 33 => (some .int)
  | 34 => (some .int)
  | 35 => (some .int)
  | 36 => (some .int)
  | 37 => (some .int)
  | 38 => (some .int)
  | 39 => (some .int)
  | 40 => (some .int)
  | 41 => (some .int)
  | 42 => (some .int)
  | 43 => (some .int)
  | 44 => (some .long)
  | 45 => (some .long)
  | 46 => (some .int)
  | 47 => (some .int)
  | 48 => (some .int)
  | 49 => (some .long)
  | 50 => (some .int)
  | 51 => (some .int)
  | 52 => (some .boolean)
  | 53 => (some .boolean)
  | 54 => (some .boolean)
  | 55 => (some .boolean)
  | 56 => (some .boolean)
  | 57 => (some .boolean)
  | 58 => (some .boolean)
  | 59 => (some .int)
  | 60 => (some .int)
  | 61 => (some .int)
  | 62 => (some .boolean)
  | 63 => (some .int)
  | 64 => (some .int)
  | 65 => (some .boolean)
  | 66 => (some .int)
  | 67 => (some .boolean)
  | 68 => (some .int)
  | 69 => (some .int)
  | 70 => none
  | 71 => (some .boolean)
  | 72 => (some .int)
  | 73 => (some .int)
  | 74 => (some .boolean)
  | 75 => (some .int)
  | 76 => (some .boolean)
  | 77 => (some .boolean)
  | 78 => (some .int)
  | 79 => (some .int)
  | 80 => (some .int)
  | 81 => none
  | 82 => (some .int)
  | 83 => (some .int)
  | 84 => (some .int)
  | 85 => (some .int)
  | 86 => (some .int)
  | 87 => (some .int)
  | 88 => (some .int)
  | 89 => (some .int)
  | 90 => (some .int)
  | 91 => (some .int)
  | 92 => (some .boolean)
  | 93 => (some .boolean)
  | 94 => (some .int)
  | 95 => (some .int)
  | 96 => (some .int)
  | 97 => (some .boolean)
  | 98 => (some .boolean)
  | 99 => (some .boolean)
  | 100 => (some .boolean)
  | 101 => (some .boolean)
  | 102 => (some .int)
  | 103 => (some .boolean)
  | 104 => (some .int)
  | 105 => (some .int)
  | 106 => (some .int)
  | 107 => (some .boolean)
  | 108 => (some .int)
  | 109 => (some .int)
  | 110 => (some .int)
  | 111 => (some .int)
  | 112 => (some .int)
  | 113 => (some .int)
  | 114 => (some .int)
  | 115 => (some .int)
  | 116 => (some .int)
  | 117 => (some .boolean)
  | 118 => (some .int)
  | 119 => (some .int)
  | 120 => (some .boolean)
  | 121 => (some .int)
  | 122 => (some .int)
  | 123 => (some .int)
  | 124 => (some .int)
  | 125 => (some .int)
  | 126 => (some .int)
  | 127 => (some .int)
  | 128 => (some .int)
  | 129 => (some .int)
  | 130 => (some .int)
  | 131 => (some .int)
  | 132 => (some .boolean)
  | 133 => (some .int)
  | 134 => (some .int)
  | 135 => none
  | 136 => none
  | 137 => none
  | 138 => (some .int)
  | 139 => (some .int)
  | 140 => (some .int)
  | 141 => (some .int)
  | 142 => (some .int)
  | 143 => (some .int)
  | 144 => (some .int)
  | 145 => (some .boolean)
  | 146 => (some .int)
  | 147 => (some .int)
  | 148 => (some .int)
  | 149 => (some .int)
  | 150 => (some .int)
  | 151 => (some .int)
  | 152 => (some .int)
  | 153 => (some .int)
  | 154 => (some .int)
  | 155 => (some .int)
  | 156 => (some .boolean)
  | 157 => (some .int)
  | 158 => (some .int)
  | 159 => (some .int)
  | 160 => (some .int)
  | 161 => (some .int)
  | 162 => (some .int)
  | 163 => (some .long)
  | 164 => (some .long)
  | 165 => (some .int)
  | 166 => (some .int)
  | 167 => (some .int)
  | 168 => (some .int)
  | 169 => none
  | 170 => none
  | 171 => (some .long)
  | 172 => none
  | 173 => none
  | 174 => none
  | 175 => (some .boolean)
  | 176 => none
  | 177 => none
  | 178 => none
  | 179 => none
  | 180 => (some .int)
  | 181 => (some .int)
  | 182 => (some .int)
  | 183 => (some .boolean)
  | 184 => (some .int)
  | 185 => (some .boolean)
  | 186 => (some .boolean)
  | 187 => (some .int)
  | 188 => (some .int)
  | 189 => (some .int)
  | 190 => (some .int)
  | 191 => (some .int)
  | 192 => (some .int)
  | 193 => (some .int)
  | 194 => (some .long)
  | 195 => none
  | 196 => none
  | 197 => none
  | 198 => (some .int)
  | 199 => (some .int)
  | 200 => (some .boolean)
  | 201 => (some .boolean)
  | 202 => (some .boolean)
  | 203 => (some .int)
  | 204 => (some .boolean)
  | 205 => none
  | 206 => none
  | 207 => (some .int)
  | 208 => (some .int)
  | 209 => none
  | 210 => (some .int)
  | 211 => (some .int)
  | 212 => (some .int)
  | 213 => (some .int)
  | 214 => (some .int)
  | 215 => (some .boolean)
  | 216 => none
  | 217 => (some .int)
  | 218 => (some .boolean)
  | 219 => (some .boolean)
  | 220 => (some .boolean)
  | 221 => (some .boolean)
  | 222 => (some .boolean)
  | 223 => (some .boolean)
  | 224 => none
  | 225 => (some .boolean)
  | 226 => (some .int)
  | 227 => (some .boolean)
  | 228 => none
  | 229 => none
  | 230 => (some .long)
  | 231 => (some .long)
  | 232 => none
  | 233 => (some .int)
  | 234 => (some .int)
  | 235 => (some .int)
  | 236 => (some .int)
  | 237 => (some .int)
  | 238 => (some .boolean)
  | 239 => none
  | 240 => none
  | 241 => (some .boolean)
  | 242 => none
  | 243 => (some .boolean)
  | 244 => (some .int)
  | 245 => (some .int)
  | 246 => (some .int)
  | 247 => (some .int)
  | 250 => (some .int)
  | 251 => (some .int)
  | 252 => (some .int)
  | 254 => none
  | _ => none
def mtN : Nat → Nat
  | 0 => 0
  | 1 => 2
  | 2 => 3
  | 3 => 2
  | 4 => 1
  | 5 => 5
  | 6 => 1
  | 7 => 2
  | 8 => 3
  | 9 => 1
  | 10 => 1
  | 11 => 2
  | 12 => 2
  | 13 => 3
  | 14 => 3
  | 15 => 1
  | 16 => 2
  | 17 => 2
  | 18 => 3
  | 19 => 2
  | 20 => 1
  | 21 => 1
  | 22 => 2
  | 23 => 1
  | 24 => 1
  | 25 => 1
  | 26 => 4
  | 27 => 4
  | 28 => 3
  | 29 => 4
  | 30 => 3
  | 31 => 3
  | 32 => 3
  | 33 => 2
  | 34 => 0
  | 35 => 2
  | 36 => 0
  | 37 => 1
  | 38 => 0
  | 39 => 1
  | 40 => 1
  | 41 => 1
  | 42 => 2
  | 43 => 0
  | 44 => 0
  | 45 => 0
  | 46 => 1
  | 47 => 0
  | 48 => 1
  | 49 => 0
  | 50 => 1
  | 51 => 1
  | 52 => 1
  | 53 => 1
  | 54 => 1
  | 55 => 1
  | 56 => 1
  | 57 => 1
  | 58 => 2
  | 59 => 1
  | 60 => 0
  | 61 => 1
  | 62 => 2
  | 63 => 2
  | 64 => 1
  | 65 => 2
  | 66 => 2
  | 67 => 2
  | 68 => 1
  | 69 => 1
  | 70 => 0
  | 71 => 3
  | 72 => 1
  | 73 => 2
  | 74 => 2
  | 75 => 1
  | 76 => 1
  | 77 => 1
  | 78 => 1
  | 79 => 1
  | 80 => 2
  | 81 => 3
  | 82 => 2
  | 83 => 2
  | 84 => 3
  | 85 => 1
  | 86 => 5
  | 87 => 1
  | 88 => 2
  | 89 => 3
  | 90 => 1
  | 91 => 1
  | 92 => 1
  | 93 => 1
  | 94 => 1
  | 95 => 1
  | 96 => 1
  | 97 => 1
  | 98 => 2
  | 99 => 1
  | 100 => 1
  | 101 => 2
  | 102 => 1
  | 103 => 2
  | 104 => 2
  | 105 => 2
  | 106 => 1
  | 107 => 1
  | 108 => 2
  | 109 => 2
  | 110 => 1
  | 111 => 2
  | 112 => 3
  | 113 => 3
  | 114 => 1
  | 115 => 2
  | 116 => 2
  | 117 => 3
  | 118 => 3
  | 119 => 1
  | 120 => 3
  | 121 => 1
  | 122 => 2
  | 123 => 1
  | 124 => 2
  | 125 => 1
  | 126 => 1
  | 127 => 2
  | 128 => 1
  | 129 => 1
  | 130 => 1
  | 131 => 4
  | 132 => 3
  | 133 => 4
  | 134 => 2
  | 135 => 3
  | 136 => 6
  | 137 => 4
  | 138 => 4
  | 139 => 3
  | 140 => 4
  | 141 => 2
  | 142 => 3
  | 143 => 3
  | 144 => 3
  | 145 => 3
  | 146 => 2
  | 147 => 2
  | 148 => 0
  | 149 => 0
  | 150 => 2
  | 151 => 2
  | 152 => 0
  | 153 => 1
  | 154 => 0
  | 155 => 1
  | 156 => 2
  | 157 => 1
  | 158 => 1
  | 159 => 1
  | 160 => 2
  | 161 => 0
  | 162 => 2
  | 163 => 0
  | 164 => 0
  | 165 => 1
  | 166 => 1
  | 167 => 0
  | 168 => 1
  | 169 => 1
  | 170 => 0
  | 171 => 0
  | 172 => 0
  | 173 => 0
  | 174 => 1
  | 175 => 1
  | 176 => 1
  | 177 => 3
  | 178 => 3
  | 179 => 0
  | 180 => 1
  | 181 => 1
  | 182 => 2
  | 183 => 2
  | 184 => 1
  | 185 => 2
  | 186 => 2
  | 187 => 2
  | 188 => 2
  | 189 => 1
  | 190 => 1
  | 191 => 0
  | 192 => 2
  | 193 => 1
  | 194 => 1
  | 195 => 0
  | 196 => 4
  | 197 => 1
  | 198 => 0
  | 199 => 0
  | 200 => 0
  | 201 => 0
  | 202 => 1
  | 203 => 0
  | 204 => 1
  | 205 => 2
  | 206 => 2
  | 207 => 2
  | 208 => 2
  | 209 => 0
  | 210 => 2
  | 211 => 1
  | 212 => 0
  | 213 => 0
  | 214 => 1
  | 215 => 2
  | 216 => 1
  | 217 => 1
  | 218 => 1
  | 219 => 1
  | 220 => 1
  | 221 => 1
  | 222 => 1
  | 223 => 1
  | 224 => 1
  | 225 => 0
  | 226 => 1
  | 227 => 2
  | 228 => 2
  | 229 => 2
  | 230 => 0
  | 231 => 1
  | 232 => 1
  | 233 => 1
  | 234 => 2
  | 235 => 1
  | 236 => 4
  | 237 => 3
  | 238 => 3
  | 239 => 1
  | 240 => 1
  | 241 => 2
  | 242 => 2
  | 243 => 3
  | 244 => 1
  | 245 => 3
  | 246 => 0
  | 247 => 0
  | 250 => 1
  | 251 => 2
  | 252 => 2
  | 254 => 2
  | _ => 0
/-- what the tables say of a method -/
def MtOK (mi : Nat) : Prop := Cond.code (mtY mi) (mtC mi) (mtM mi) (mtR mi) ∈ lw_tbl ∧ Cond.initialized (mtY mi).cls ∈ lw_tbl ∧ ((mtY mi).cls ≠ "java/lang/invoke/MethodHandle" ∧ (mtY mi).cls ≠ "java/lang/invoke/VarHandle" ∧ (parseMethodDescriptor (mtY mi).desc).map (fun d => d.parameters.length) = some (mtN mi)) ∧ mtM mi ≤ 12
def mtL : List Nat := [0, 1, 2, 3, 4, 5, 6, 7, 8, 9, 10, 11, 12, 13, 14, 15, 16, 17, 18, 19, 20, 21, 22, 23, 24, 25, 26, 27, 28, 29, 30, 31, 32, 33, 34, 35, 36, 37, 38, 39, 40, 41, 42, 43, 44, 45, 46, 47, 48, 49, 50, 51, 52, 53, 54, 55, 56, 57, 58, 59, 60, 61, 62, 63, 64, 65, 66, 67, 68, 69, 70, 71, 72, 73, 74, 75, 76, 77, 78, 79, 80, 81, 82, 83, 84, 85, 86, 87, 88, 89, 90, 91, 92, 93, 94, 95, 96, 97, 98, 99, 100, 101, 102, 103, 104, 105, 106, 107, 108, 109, 110, 111, 112, 113, 114, 115, 116, 117, 118, 119, 120, 121, 122, 123, 124, 125, 126, 127, 128, 129, 130, 131, 132, 133, 134, 135, 136, 137, 138, 139, 140, 141, 142, 143, 144, 145, 146, 147, 148, 149, 150, 151, 152, 153, 154, 155, 156, 157, 158, 159, 160, 161, 162, 163, 164, 165, 166, 167, 168, 169, 170, 171, 172, 173, 174, 175, 176, 177, 178, 179, 180, 181, 182, 183, 184, 185, 186, 187, 188, 189, 190, 191, 192, 193, 194, 195, 196, 197, 198, 199, 200, 201, 202, 203, 204, 205, 206, 207, 208, 209, 210, 211, 212, 213, 214, 215, 216, 217, 218, 219, 220, 221, 222, 223, 224, 225, 226, 227, 228, 229, 230, 231, 232, 233, 234, 235, 236, 237, 238, 239, 240, 241, 242, 243, 244, 245, 246, 247, 250, 251, 252, 254]
theorem mt_0 : MtOK 0 := ⟨List.mem_of_getElem? (i := 86) (by decide +kernel), List.mem_of_getElem? (i := 70) (by decide +kernel), by decide +kernel, by decide +kernel⟩
theorem mt_1 : MtOK 1 := ⟨List.mem_of_getElem? (i := 314) (by decide +kernel), List.mem_of_getElem? (i := 70) (by decide +kernel), by decide +kernel, by decide +kernel⟩
theorem mt_2 : MtOK 2 := ⟨List.mem_of_getElem? (i := 332) (by decide +kernel), List.mem_of_getElem? (i := 70) (by decide +kernel), by decide +kernel, by decide +kernel⟩
theorem mt_3 : MtOK 3 := ⟨List.mem_of_getElem? (i := 348) (by decide +kernel), List.mem_of_getElem? (i := 70) (by decide +kernel), by decide +kernel, by decide +kernel⟩
theorem mt_4 : MtOK 4 := ⟨List.mem_of_getElem? (i := 352) (by decide +kernel), List.mem_of_getElem? (i := 70) (by decide +kernel), by decide +kernel, by decide +kernel⟩
theorem mt_5 : MtOK 5 := ⟨List.mem_of_getElem? (i := 357) (by decide +kernel), List.mem_of_getElem? (i := 70) (by decide +kernel), by decide +kernel, by decide +kernel⟩
theorem mt_6 : MtOK 6 := ⟨List.mem_of_getElem? (i := 368) (by decide +kernel), List.mem_of_getElem? (i := 70) (by decide +kernel), by decide +kernel, by decide +kernel⟩
theorem mt_7 : MtOK 7 := ⟨List.mem_of_getElem? (i := 376) (by decide +kernel), List.mem_of_getElem? (i := 70) (by decide +kernel), by decide +kernel, by decide +kernel⟩
theorem mt_8 : MtOK 8 := ⟨List.mem_of_getElem? (i := 383) (by decide +kernel), List.mem_of_getElem? (i := 70) (by decide +kernel), by decide +kernel, by decide +kernel⟩
theorem mt_9 : MtOK 9 := ⟨List.mem_of_getElem? (i := 387) (by decide +kernel), List.mem_of_getElem? (i := 70) (by decide +kernel), by decide +kernel, by decide +kernel⟩
theorem mt_10 : MtOK 10 := ⟨List.mem_of_getElem? (i := 456) (by decide +kernel), List.mem_of_getElem? (i := 70) (by decide +kernel), by decide +kernel, by decide +kernel⟩
theorem mt_11 : MtOK 11 := ⟨List.mem_of_getElem? (i := 470) (by decide +kernel), List.mem_of_getElem? (i := 70) (by decide +kernel), by decide +kernel, by decide +kernel⟩
theorem mt_12 : MtOK 12 := ⟨List.mem_of_getElem? (i := 496) (by decide +kernel), List.mem_of_getElem? (i := 70) (by decide +kernel), by decide +kernel, by decide +kernel⟩
theorem mt_13 : MtOK 13 := ⟨List.mem_of_getElem? (i := 524) (by decide +kernel), List.mem_of_getElem? (i := 70) (by decide +kernel), by decide +kernel, by decide +kernel⟩
theorem mt_14 : MtOK 14 := ⟨List.mem_of_getElem? (i := 530) (by decide +kernel), List.mem_of_getElem? (i := 70) (by decide +kernel), by decide +kernel, by decide +kernel⟩
theorem mt_15 : MtOK 15 := ⟨List.mem_of_getElem? (i := 539) (by decide +kernel), List.mem_of_getElem? (i := 70) (by decide +kernel), by decide +kernel, by decide +kernel⟩
theorem mt_16 : MtOK 16 := ⟨List.mem_of_getElem? (i := 544) (by decide +kernel), List.mem_of_getElem? (i := 70) (by decide +kernel), by decide +kernel, by decide +kernel⟩
theorem mt_17 : MtOK 17 := ⟨List.mem_of_getElem? (i := 559) (by decide +kernel), List.mem_of_getElem? (i := 70) (by decide +kernel), by decide +kernel, by decide +kernel⟩
theorem mt_18 : MtOK 18 := ⟨List.mem_of_getElem? (i := 566) (by decide +kernel), List.mem_of_getElem? (i := 70) (by decide +kernel), by decide +kernel, by decide +kernel⟩
theorem mt_19 : MtOK 19 := ⟨List.mem_of_getElem? (i := 574) (by decide +kernel), List.mem_of_getElem? (i := 70) (by decide +kernel), by decide +kernel, by decide +kernel⟩
theorem mt_20 : MtOK 20 := ⟨List.mem_of_getElem? (i := 618) (by decide +kernel), List.mem_of_getElem? (i := 70) (by decide +kernel), by decide +kernel, by decide +kernel⟩
theorem mt_21 : MtOK 21 := ⟨List.mem_of_getElem? (i := 622) (by decide +kernel), List.mem_of_getElem? (i := 70) (by decide +kernel), by decide +kernel, by decide +kernel⟩
theorem mt_22 : MtOK 22 := ⟨List.mem_of_getElem? (i := 628) (by decide +kernel), List.mem_of_getElem? (i := 70) (by decide +kernel), by decide +kernel, by decide +kernel⟩
theorem mt_23 : MtOK 23 := ⟨List.mem_of_getElem? (i := 636) (by decide +kernel), List.mem_of_getElem? (i := 70) (by decide +kernel), by decide +kernel, by decide +kernel⟩
theorem mt_24 : MtOK 24 := ⟨List.mem_of_getElem? (i := 640) (by decide +kernel), List.mem_of_getElem? (i := 70) (by decide +kernel), by decide +kernel, by decide +kernel⟩
theorem mt_25 : MtOK 25 := ⟨List.mem_of_getElem? (i := 647) (by decide +kernel), List.mem_of_getElem? (i := 70) (by decide +kernel), by decide +kernel, by decide +kernel⟩
theorem mt_26 : MtOK 26 := ⟨List.mem_of_getElem? (i := 651) (by decide +kernel), List.mem_of_getElem? (i := 70) (by decide +kernel), by decide +kernel, by decide +kernel⟩
theorem mt_27 : MtOK 27 := ⟨List.mem_of_getElem? (i := 670) (by decide +kernel), List.mem_of_getElem? (i := 70) (by decide +kernel), by decide +kernel, by decide +kernel⟩
theorem mt_28 : MtOK 28 := ⟨List.mem_of_getElem? (i := 701) (by decide +kernel), List.mem_of_getElem? (i := 70) (by decide +kernel), by decide +kernel, by decide +kernel⟩
theorem mt_29 : MtOK 29 := ⟨List.mem_of_getElem? (i := 705) (by decide +kernel), List.mem_of_getElem? (i := 70) (by decide +kernel), by decide +kernel, by decide +kernel⟩
theorem mt_30 : MtOK 30 := ⟨List.mem_of_getElem? (i := 712) (by decide +kernel), List.mem_of_getElem? (i := 70) (by decide +kernel), by decide +kernel, by decide +kernel⟩
theorem mt_31 : MtOK 31 := ⟨List.mem_of_getElem? (i := 729) (by decide +kernel), List.mem_of_getElem? (i := 70) (by decide +kernel), by decide +kernel, by decide +kernel⟩
theorem mt_32 : MtOK 32 := ⟨List.mem_of_getElem? (i := 738) (by decide +kernel), List.mem_of_getElem? (i := 70) (by decide +kernel), by decide +kernel, by decide +kernel⟩
theorem mt_33 : MtOK 33 := ⟨List.mem_of_getElem? (i := 754) (by decide +kernel), List.mem_of_getElem? (i := 70) (by decide +kernel), by decide +kernel, by decide +kernel⟩
theorem mt_34 : MtOK 34 := ⟨List.mem_of_getElem? (i := 774) (by decide +kernel), List.mem_of_getElem? (i := 70) (by decide +kernel), by decide +kernel, by decide +kernel⟩
theorem mt_35 : MtOK 35 := ⟨List.mem_of_getElem? (i := 784) (by decide +kernel), List.mem_of_getElem? (i := 70) (by decide +kernel), by decide +kernel, by decide +kernel⟩
theorem mt_36 : MtOK 36 := ⟨List.mem_of_getElem? (i := 793) (by decide +kernel), List.mem_of_getElem? (i := 70) (by decide +kernel), by decide +kernel, by decide +kernel⟩
theorem mt_37 : MtOK 37 := ⟨List.mem_of_getElem? (i := 797) (by decide +kernel), List.mem_of_getElem? (i := 70) (by decide +kernel), by decide +kernel, by decide +kernel⟩
theorem mt_38 : MtOK 38 := ⟨List.mem_of_getElem? (i := 805) (by decide +kernel), List.mem_of_getElem? (i := 70) (by decide +kernel), by decide +kernel, by decide +kernel⟩
theorem mt_39 : MtOK 39 := ⟨List.mem_of_getElem? (i := 825) (by decide +kernel), List.mem_of_getElem? (i := 70) (by decide +kernel), by decide +kernel, by decide +kernel⟩
theorem mt_40 : MtOK 40 := ⟨List.mem_of_getElem? (i := 836) (by decide +kernel), List.mem_of_getElem? (i := 70) (by decide +kernel), by decide +kernel, by decide +kernel⟩
theorem mt_41 : MtOK 41 := ⟨List.mem_of_getElem? (i := 840) (by decide +kernel), List.mem_of_getElem? (i := 70) (by decide +kernel), by decide +kernel, by decide +kernel⟩
theorem mt_42 : MtOK 42 := ⟨List.mem_of_getElem? (i := 844) (by decide +kernel), List.mem_of_getElem? (i := 70) (by decide +kernel), by decide +kernel, by decide +kernel⟩
theorem mt_43 : MtOK 43 := ⟨List.mem_of_getElem? (i := 860) (by decide +kernel), List.mem_of_getElem? (i := 70) (by decide +kernel), by decide +kernel, by decide +kernel⟩
theorem mt_44 : MtOK 44 := ⟨List.mem_of_getElem? (i := 864) (by decide +kernel), List.mem_of_getElem? (i := 70) (by decide +kernel), by decide +kernel, by decide +kernel⟩
theorem mt_45 : MtOK 45 := ⟨List.mem_of_getElem? (i := 871) (by decide +kernel), List.mem_of_getElem? (i := 70) (by decide +kernel), by decide +kernel, by decide +kernel⟩
theorem mt_46 : MtOK 46 := ⟨List.mem_of_getElem? (i := 875) (by decide +kernel), List.mem_of_getElem? (i := 70) (by decide +kernel), by decide +kernel, by decide +kernel⟩
theorem mt_47 : MtOK 47 := ⟨List.mem_of_getElem? (i := 892) (by decide +kernel), List.mem_of_getElem? (i := 70) (by decide +kernel), by decide +kernel, by decide +kernel⟩
theorem mt_48 : MtOK 48 := ⟨List.mem_of_getElem? (i := 896) (by decide +kernel), List.mem_of_getElem? (i := 70) (by decide +kernel), by decide +kernel, by decide +kernel⟩
theorem mt_49 : MtOK 49 := ⟨List.mem_of_getElem? (i := 900) (by decide +kernel), List.mem_of_getElem? (i := 70) (by decide +kernel), by decide +kernel, by decide +kernel⟩
theorem mt_50 : MtOK 50 := ⟨List.mem_of_getElem? (i := 321) (by decide +kernel), List.mem_of_getElem? (i := 70) (by decide +kernel), by decide +kernel, by decide +kernel⟩
theorem mt_51 : MtOK 51 := ⟨List.mem_of_getElem? (i := 344) (by decide +kernel), List.mem_of_getElem? (i := 70) (by decide +kernel), by decide +kernel, by decide +kernel⟩
theorem mt_52 : MtOK 52 := ⟨List.mem_of_getElem? (i := 317) (by decide +kernel), List.mem_of_getElem? (i := 70) (by decide +kernel), by decide +kernel, by decide +kernel⟩
theorem mt_53 : MtOK 53 := ⟨List.mem_of_getElem? (i := 379) (by decide +kernel), List.mem_of_getElem? (i := 70) (by decide +kernel), by decide +kernel, by decide +kernel⟩
theorem mt_54 : MtOK 54 := ⟨List.mem_of_getElem? (i := 643) (by decide +kernel), List.mem_of_getElem? (i := 70) (by decide +kernel), by decide +kernel, by decide +kernel⟩
theorem mt_55 : MtOK 55 := ⟨List.mem_of_getElem? (i := 420) (by decide +kernel), List.mem_of_getElem? (i := 70) (by decide +kernel), by decide +kernel, by decide +kernel⟩
theorem mt_56 : MtOK 56 := ⟨List.mem_of_getElem? (i := 547) (by decide +kernel), List.mem_of_getElem? (i := 70) (by decide +kernel), by decide +kernel, by decide +kernel⟩
theorem mt_57 : MtOK 57 := ⟨List.mem_of_getElem? (i := 562) (by decide +kernel), List.mem_of_getElem? (i := 70) (by decide +kernel), by decide +kernel, by decide +kernel⟩
theorem mt_58 : MtOK 58 := ⟨List.mem_of_getElem? (i := 534) (by decide +kernel), List.mem_of_getElem? (i := 70) (by decide +kernel), by decide +kernel, by decide +kernel⟩
theorem mt_59 : MtOK 59 := ⟨List.mem_of_getElem? (i := 884) (by decide +kernel), List.mem_of_getElem? (i := 70) (by decide +kernel), by decide +kernel, by decide +kernel⟩
theorem mt_60 : MtOK 60 := ⟨List.mem_of_getElem? (i := 888) (by decide +kernel), List.mem_of_getElem? (i := 70) (by decide +kernel), by decide +kernel, by decide +kernel⟩
theorem mt_61 : MtOK 61 := ⟨List.mem_of_getElem? (i := 829) (by decide +kernel), List.mem_of_getElem? (i := 70) (by decide +kernel), by decide +kernel, by decide +kernel⟩
theorem mt_62 : MtOK 62 := ⟨List.mem_of_getElem? (i := 832) (by decide +kernel), List.mem_of_getElem? (i := 70) (by decide +kernel), by decide +kernel, by decide +kernel⟩
theorem mt_63 : MtOK 63 := ⟨List.mem_of_getElem? (i := 867) (by decide +kernel), List.mem_of_getElem? (i := 70) (by decide +kernel), by decide +kernel, by decide +kernel⟩
theorem mt_64 : MtOK 64 := ⟨List.mem_of_getElem? (i := 409) (by decide +kernel), List.mem_of_getElem? (i := 70) (by decide +kernel), by decide +kernel, by decide +kernel⟩
theorem mt_65 : MtOK 65 := ⟨List.mem_of_getElem? (i := 598) (by decide +kernel), List.mem_of_getElem? (i := 70) (by decide +kernel), by decide +kernel, by decide +kernel⟩
theorem mt_66 : MtOK 66 := ⟨List.mem_of_getElem? (i := 855) (by decide +kernel), List.mem_of_getElem? (i := 70) (by decide +kernel), by decide +kernel, by decide +kernel⟩
theorem mt_67 : MtOK 67 := ⟨List.mem_of_getElem? (i := 499) (by decide +kernel), List.mem_of_getElem? (i := 70) (by decide +kernel), by decide +kernel, by decide +kernel⟩
theorem mt_68 : MtOK 68 := ⟨List.mem_of_getElem? (i := 428) (by decide +kernel), List.mem_of_getElem? (i := 70) (by decide +kernel), by decide +kernel, by decide +kernel⟩
theorem mt_69 : MtOK 69 := ⟨List.mem_of_getElem? (i := 512) (by decide +kernel), List.mem_of_getElem? (i := 70) (by decide +kernel), by decide +kernel, by decide +kernel⟩
theorem mt_70 : MtOK 70 := ⟨List.mem_of_getElem? (i := 919) (by decide +kernel), List.mem_of_getElem? (i := 77) (by decide +kernel), by decide +kernel, by decide +kernel⟩
theorem mt_71 : MtOK 71 := ⟨List.mem_of_getElem? (i := 1030) (by decide +kernel), List.mem_of_getElem? (i := 77) (by decide +kernel), by decide +kernel, by decide +kernel⟩
theorem mt_72 : MtOK 72 := ⟨List.mem_of_getElem? (i := 1034) (by decide +kernel), List.mem_of_getElem? (i := 77) (by decide +kernel), by decide +kernel, by decide +kernel⟩
theorem mt_73 : MtOK 73 := ⟨List.mem_of_getElem? (i := 1054) (by decide +kernel), List.mem_of_getElem? (i := 77) (by decide +kernel), by decide +kernel, by decide +kernel⟩
theorem mt_74 : MtOK 74 := ⟨List.mem_of_getElem? (i := 1225) (by decide +kernel), List.mem_of_getElem? (i := 77) (by decide +kernel), by decide +kernel, by decide +kernel⟩
theorem mt_75 : MtOK 75 := ⟨List.mem_of_getElem? (i := 1148) (by decide +kernel), List.mem_of_getElem? (i := 77) (by decide +kernel), by decide +kernel, by decide +kernel⟩
theorem mt_76 : MtOK 76 := ⟨List.mem_of_getElem? (i := 1027) (by decide +kernel), List.mem_of_getElem? (i := 77) (by decide +kernel), by decide +kernel, by decide +kernel⟩
theorem mt_77 : MtOK 77 := ⟨List.mem_of_getElem? (i := 1078) (by decide +kernel), List.mem_of_getElem? (i := 77) (by decide +kernel), by decide +kernel, by decide +kernel⟩
theorem mt_78 : MtOK 78 := ⟨List.mem_of_getElem? (i := 1046) (by decide +kernel), List.mem_of_getElem? (i := 77) (by decide +kernel), by decide +kernel, by decide +kernel⟩
theorem mt_79 : MtOK 79 := ⟨List.mem_of_getElem? (i := 1086) (by decide +kernel), List.mem_of_getElem? (i := 77) (by decide +kernel), by decide +kernel, by decide +kernel⟩
theorem mt_80 : MtOK 80 := ⟨List.mem_of_getElem? (i := 1050) (by decide +kernel), List.mem_of_getElem? (i := 77) (by decide +kernel), by decide +kernel, by decide +kernel⟩
theorem mt_81 : MtOK 81 := ⟨List.mem_of_getElem? (i := 1038) (by decide +kernel), List.mem_of_getElem? (i := 77) (by decide +kernel), by decide +kernel, by decide +kernel⟩
theorem mt_82 : MtOK 82 := ⟨List.mem_of_getElem? (i := 1024) (by decide +kernel), List.mem_of_getElem? (i := 77) (by decide +kernel), by decide +kernel, by decide +kernel⟩
theorem mt_83 : MtOK 83 := ⟨List.mem_of_getElem? (i := 1042) (by decide +kernel), List.mem_of_getElem? (i := 77) (by decide +kernel), by decide +kernel, by decide +kernel⟩
theorem mt_84 : MtOK 84 := ⟨List.mem_of_getElem? (i := 1058) (by decide +kernel), List.mem_of_getElem? (i := 77) (by decide +kernel), by decide +kernel, by decide +kernel⟩
theorem mt_85 : MtOK 85 := ⟨List.mem_of_getElem? (i := 1063) (by decide +kernel), List.mem_of_getElem? (i := 77) (by decide +kernel), by decide +kernel, by decide +kernel⟩
theorem mt_86 : MtOK 86 := ⟨List.mem_of_getElem? (i := 1067) (by decide +kernel), List.mem_of_getElem? (i := 77) (by decide +kernel), by decide +kernel, by decide +kernel⟩
theorem mt_87 : MtOK 87 := ⟨List.mem_of_getElem? (i := 1071) (by decide +kernel), List.mem_of_getElem? (i := 77) (by decide +kernel), by decide +kernel, by decide +kernel⟩
theorem mt_88 : MtOK 88 := ⟨List.mem_of_getElem? (i := 1075) (by decide +kernel), List.mem_of_getElem? (i := 77) (by decide +kernel), by decide +kernel, by decide +kernel⟩
theorem mt_89 : MtOK 89 := ⟨List.mem_of_getElem? (i := 1082) (by decide +kernel), List.mem_of_getElem? (i := 77) (by decide +kernel), by decide +kernel, by decide +kernel⟩
theorem mt_90 : MtOK 90 := ⟨List.mem_of_getElem? (i := 1098) (by decide +kernel), List.mem_of_getElem? (i := 77) (by decide +kernel), by decide +kernel, by decide +kernel⟩
theorem mt_91 : MtOK 91 := ⟨List.mem_of_getElem? (i := 1109) (by decide +kernel), List.mem_of_getElem? (i := 77) (by decide +kernel), by decide +kernel, by decide +kernel⟩
theorem mt_92 : MtOK 92 := ⟨List.mem_of_getElem? (i := 1106) (by decide +kernel), List.mem_of_getElem? (i := 77) (by decide +kernel), by decide +kernel, by decide +kernel⟩
theorem mt_93 : MtOK 93 := ⟨List.mem_of_getElem? (i := 1102) (by decide +kernel), List.mem_of_getElem? (i := 77) (by decide +kernel), by decide +kernel, by decide +kernel⟩
theorem mt_94 : MtOK 94 := ⟨List.mem_of_getElem? (i := 1094) (by decide +kernel), List.mem_of_getElem? (i := 77) (by decide +kernel), by decide +kernel, by decide +kernel⟩
theorem mt_95 : MtOK 95 := ⟨List.mem_of_getElem? (i := 1090) (by decide +kernel), List.mem_of_getElem? (i := 77) (by decide +kernel), by decide +kernel, by decide +kernel⟩
theorem mt_96 : MtOK 96 := ⟨List.mem_of_getElem? (i := 1113) (by decide +kernel), List.mem_of_getElem? (i := 77) (by decide +kernel), by decide +kernel, by decide +kernel⟩
theorem mt_97 : MtOK 97 := ⟨List.mem_of_getElem? (i := 1121) (by decide +kernel), List.mem_of_getElem? (i := 77) (by decide +kernel), by decide +kernel, by decide +kernel⟩
theorem mt_98 : MtOK 98 := ⟨List.mem_of_getElem? (i := 1175) (by decide +kernel), List.mem_of_getElem? (i := 77) (by decide +kernel), by decide +kernel, by decide +kernel⟩
theorem mt_99 : MtOK 99 := ⟨List.mem_of_getElem? (i := 1167) (by decide +kernel), List.mem_of_getElem? (i := 77) (by decide +kernel), by decide +kernel, by decide +kernel⟩
theorem mt_100 : MtOK 100 := ⟨List.mem_of_getElem? (i := 1186) (by decide +kernel), List.mem_of_getElem? (i := 77) (by decide +kernel), by decide +kernel, by decide +kernel⟩
theorem mt_101 : MtOK 101 := ⟨List.mem_of_getElem? (i := 1145) (by decide +kernel), List.mem_of_getElem? (i := 77) (by decide +kernel), by decide +kernel, by decide +kernel⟩
theorem mt_102 : MtOK 102 := ⟨List.mem_of_getElem? (i := 1152) (by decide +kernel), List.mem_of_getElem? (i := 77) (by decide +kernel), by decide +kernel, by decide +kernel⟩
theorem mt_103 : MtOK 103 := ⟨List.mem_of_getElem? (i := 1190) (by decide +kernel), List.mem_of_getElem? (i := 77) (by decide +kernel), by decide +kernel, by decide +kernel⟩
theorem mt_104 : MtOK 104 := ⟨List.mem_of_getElem? (i := 1160) (by decide +kernel), List.mem_of_getElem? (i := 77) (by decide +kernel), by decide +kernel, by decide +kernel⟩
theorem mt_105 : MtOK 105 := ⟨List.mem_of_getElem? (i := 1133) (by decide +kernel), List.mem_of_getElem? (i := 77) (by decide +kernel), by decide +kernel, by decide +kernel⟩
theorem mt_106 : MtOK 106 := ⟨List.mem_of_getElem? (i := 1129) (by decide +kernel), List.mem_of_getElem? (i := 77) (by decide +kernel), by decide +kernel, by decide +kernel⟩
theorem mt_107 : MtOK 107 := ⟨List.mem_of_getElem? (i := 1137) (by decide +kernel), List.mem_of_getElem? (i := 77) (by decide +kernel), by decide +kernel, by decide +kernel⟩
theorem mt_108 : MtOK 108 := ⟨List.mem_of_getElem? (i := 1125) (by decide +kernel), List.mem_of_getElem? (i := 77) (by decide +kernel), by decide +kernel, by decide +kernel⟩
theorem mt_109 : MtOK 109 := ⟨List.mem_of_getElem? (i := 1117) (by decide +kernel), List.mem_of_getElem? (i := 77) (by decide +kernel), by decide +kernel, by decide +kernel⟩
theorem mt_110 : MtOK 110 := ⟨List.mem_of_getElem? (i := 1156) (by decide +kernel), List.mem_of_getElem? (i := 77) (by decide +kernel), by decide +kernel, by decide +kernel⟩
theorem mt_111 : MtOK 111 := ⟨List.mem_of_getElem? (i := 1141) (by decide +kernel), List.mem_of_getElem? (i := 77) (by decide +kernel), by decide +kernel, by decide +kernel⟩
theorem mt_112 : MtOK 112 := ⟨List.mem_of_getElem? (i := 1164) (by decide +kernel), List.mem_of_getElem? (i := 77) (by decide +kernel), by decide +kernel, by decide +kernel⟩
theorem mt_113 : MtOK 113 := ⟨List.mem_of_getElem? (i := 1171) (by decide +kernel), List.mem_of_getElem? (i := 77) (by decide +kernel), by decide +kernel, by decide +kernel⟩
theorem mt_114 : MtOK 114 := ⟨List.mem_of_getElem? (i := 1179) (by decide +kernel), List.mem_of_getElem? (i := 77) (by decide +kernel), by decide +kernel, by decide +kernel⟩
theorem mt_115 : MtOK 115 := ⟨List.mem_of_getElem? (i := 1183) (by decide +kernel), List.mem_of_getElem? (i := 77) (by decide +kernel), by decide +kernel, by decide +kernel⟩
theorem mt_116 : MtOK 116 := ⟨List.mem_of_getElem? (i := 1194) (by decide +kernel), List.mem_of_getElem? (i := 77) (by decide +kernel), by decide +kernel, by decide +kernel⟩
theorem mt_117 : MtOK 117 := ⟨List.mem_of_getElem? (i := 1202) (by decide +kernel), List.mem_of_getElem? (i := 77) (by decide +kernel), by decide +kernel, by decide +kernel⟩
theorem mt_118 : MtOK 118 := ⟨List.mem_of_getElem? (i := 1198) (by decide +kernel), List.mem_of_getElem? (i := 77) (by decide +kernel), by decide +kernel, by decide +kernel⟩
theorem mt_119 : MtOK 119 := ⟨List.mem_of_getElem? (i := 1218) (by decide +kernel), List.mem_of_getElem? (i := 77) (by decide +kernel), by decide +kernel, by decide +kernel⟩
theorem mt_120 : MtOK 120 := ⟨List.mem_of_getElem? (i := 1222) (by decide +kernel), List.mem_of_getElem? (i := 77) (by decide +kernel), by decide +kernel, by decide +kernel⟩
theorem mt_121 : MtOK 121 := ⟨List.mem_of_getElem? (i := 1214) (by decide +kernel), List.mem_of_getElem? (i := 77) (by decide +kernel), by decide +kernel, by decide +kernel⟩
theorem mt_122 : MtOK 122 := ⟨List.mem_of_getElem? (i := 1229) (by decide +kernel), List.mem_of_getElem? (i := 77) (by decide +kernel), by decide +kernel, by decide +kernel⟩
theorem mt_123 : MtOK 123 := ⟨List.mem_of_getElem? (i := 1210) (by decide +kernel), List.mem_of_getElem? (i := 77) (by decide +kernel), by decide +kernel, by decide +kernel⟩
theorem mt_124 : MtOK 124 := ⟨List.mem_of_getElem? (i := 1206) (by decide +kernel), List.mem_of_getElem? (i := 77) (by decide +kernel), by decide +kernel, by decide +kernel⟩
theorem mt_125 : MtOK 125 := ⟨List.mem_of_getElem? (i := 1233) (by decide +kernel), List.mem_of_getElem? (i := 77) (by decide +kernel), by decide +kernel, by decide +kernel⟩
theorem mt_126 : MtOK 126 := ⟨List.mem_of_getElem? (i := 1237) (by decide +kernel), List.mem_of_getElem? (i := 77) (by decide +kernel), by decide +kernel, by decide +kernel⟩
theorem mt_127 : MtOK 127 := ⟨List.mem_of_getElem? (i := 1241) (by decide +kernel), List.mem_of_getElem? (i := 77) (by decide +kernel), by decide +kernel, by decide +kernel⟩
theorem mt_128 : MtOK 128 := ⟨List.mem_of_getElem? (i := 1246) (by decide +kernel), List.mem_of_getElem? (i := 77) (by decide +kernel), by decide +kernel, by decide +kernel⟩
theorem mt_129 : MtOK 129 := ⟨List.mem_of_getElem? (i := 1250) (by decide +kernel), List.mem_of_getElem? (i := 77) (by decide +kernel), by decide +kernel, by decide +kernel⟩
theorem mt_130 : MtOK 130 := ⟨List.mem_of_getElem? (i := 1254) (by decide +kernel), List.mem_of_getElem? (i := 77) (by decide +kernel), by decide +kernel, by decide +kernel⟩
theorem mt_131 : MtOK 131 := ⟨List.mem_of_getElem? (i := 1266) (by decide +kernel), List.mem_of_getElem? (i := 77) (by decide +kernel), by decide +kernel, by decide +kernel⟩
theorem mt_132 : MtOK 132 := ⟨List.mem_of_getElem? (i := 1262) (by decide +kernel), List.mem_of_getElem? (i := 77) (by decide +kernel), by decide +kernel, by decide +kernel⟩
theorem mt_133 : MtOK 133 := ⟨List.mem_of_getElem? (i := 1258) (by decide +kernel), List.mem_of_getElem? (i := 77) (by decide +kernel), by decide +kernel, by decide +kernel⟩
theorem mt_134 : MtOK 134 := ⟨List.mem_of_getElem? (i := 1287) (by decide +kernel), List.mem_of_getElem? (i := 77) (by decide +kernel), by decide +kernel, by decide +kernel⟩
theorem mt_135 : MtOK 135 := ⟨List.mem_of_getElem? (i := 1283) (by decide +kernel), List.mem_of_getElem? (i := 77) (by decide +kernel), by decide +kernel, by decide +kernel⟩
theorem mt_136 : MtOK 136 := ⟨List.mem_of_getElem? (i := 1279) (by decide +kernel), List.mem_of_getElem? (i := 77) (by decide +kernel), by decide +kernel, by decide +kernel⟩
theorem mt_137 : MtOK 137 := ⟨List.mem_of_getElem? (i := 1274) (by decide +kernel), List.mem_of_getElem? (i := 77) (by decide +kernel), by decide +kernel, by decide +kernel⟩
theorem mt_138 : MtOK 138 := ⟨List.mem_of_getElem? (i := 1270) (by decide +kernel), List.mem_of_getElem? (i := 77) (by decide +kernel), by decide +kernel, by decide +kernel⟩
theorem mt_139 : MtOK 139 := ⟨List.mem_of_getElem? (i := 1291) (by decide +kernel), List.mem_of_getElem? (i := 77) (by decide +kernel), by decide +kernel, by decide +kernel⟩
theorem mt_140 : MtOK 140 := ⟨List.mem_of_getElem? (i := 1295) (by decide +kernel), List.mem_of_getElem? (i := 77) (by decide +kernel), by decide +kernel, by decide +kernel⟩
theorem mt_141 : MtOK 141 := ⟨List.mem_of_getElem? (i := 1303) (by decide +kernel), List.mem_of_getElem? (i := 77) (by decide +kernel), by decide +kernel, by decide +kernel⟩
theorem mt_142 : MtOK 142 := ⟨List.mem_of_getElem? (i := 1299) (by decide +kernel), List.mem_of_getElem? (i := 77) (by decide +kernel), by decide +kernel, by decide +kernel⟩
theorem mt_143 : MtOK 143 := ⟨List.mem_of_getElem? (i := 1307) (by decide +kernel), List.mem_of_getElem? (i := 77) (by decide +kernel), by decide +kernel, by decide +kernel⟩
theorem mt_144 : MtOK 144 := ⟨List.mem_of_getElem? (i := 1311) (by decide +kernel), List.mem_of_getElem? (i := 77) (by decide +kernel), by decide +kernel, by decide +kernel⟩
theorem mt_145 : MtOK 145 := ⟨List.mem_of_getElem? (i := 1319) (by decide +kernel), List.mem_of_getElem? (i := 77) (by decide +kernel), by decide +kernel, by decide +kernel⟩
theorem mt_146 : MtOK 146 := ⟨List.mem_of_getElem? (i := 1315) (by decide +kernel), List.mem_of_getElem? (i := 77) (by decide +kernel), by decide +kernel, by decide +kernel⟩
theorem mt_147 : MtOK 147 := ⟨List.mem_of_getElem? (i := 1331) (by decide +kernel), List.mem_of_getElem? (i := 77) (by decide +kernel), by decide +kernel, by decide +kernel⟩
theorem mt_148 : MtOK 148 := ⟨List.mem_of_getElem? (i := 1327) (by decide +kernel), List.mem_of_getElem? (i := 77) (by decide +kernel), by decide +kernel, by decide +kernel⟩
theorem mt_149 : MtOK 149 := ⟨List.mem_of_getElem? (i := 1323) (by decide +kernel), List.mem_of_getElem? (i := 77) (by decide +kernel), by decide +kernel, by decide +kernel⟩
theorem mt_150 : MtOK 150 := ⟨List.mem_of_getElem? (i := 1339) (by decide +kernel), List.mem_of_getElem? (i := 77) (by decide +kernel), by decide +kernel, by decide +kernel⟩
theorem mt_151 : MtOK 151 := ⟨List.mem_of_getElem? (i := 1335) (by decide +kernel), List.mem_of_getElem? (i := 77) (by decide +kernel), by decide +kernel, by decide +kernel⟩
theorem mt_152 : MtOK 152 := ⟨List.mem_of_getElem? (i := 1343) (by decide +kernel), List.mem_of_getElem? (i := 77) (by decide +kernel), by decide +kernel, by decide +kernel⟩
theorem mt_153 : MtOK 153 := ⟨List.mem_of_getElem? (i := 1347) (by decide +kernel), List.mem_of_getElem? (i := 77) (by decide +kernel), by decide +kernel, by decide +kernel⟩
theorem mt_154 : MtOK 154 := ⟨List.mem_of_getElem? (i := 1351) (by decide +kernel), List.mem_of_getElem? (i := 77) (by decide +kernel), by decide +kernel, by decide +kernel⟩
theorem mt_155 : MtOK 155 := ⟨List.mem_of_getElem? (i := 1359) (by decide +kernel), List.mem_of_getElem? (i := 77) (by decide +kernel), by decide +kernel, by decide +kernel⟩
theorem mt_156 : MtOK 156 := ⟨List.mem_of_getElem? (i := 1363) (by decide +kernel), List.mem_of_getElem? (i := 77) (by decide +kernel), by decide +kernel, by decide +kernel⟩
theorem mt_157 : MtOK 157 := ⟨List.mem_of_getElem? (i := 1355) (by decide +kernel), List.mem_of_getElem? (i := 77) (by decide +kernel), by decide +kernel, by decide +kernel⟩
theorem mt_158 : MtOK 158 := ⟨List.mem_of_getElem? (i := 1367) (by decide +kernel), List.mem_of_getElem? (i := 77) (by decide +kernel), by decide +kernel, by decide +kernel⟩
theorem mt_159 : MtOK 159 := ⟨List.mem_of_getElem? (i := 1371) (by decide +kernel), List.mem_of_getElem? (i := 77) (by decide +kernel), by decide +kernel, by decide +kernel⟩
theorem mt_160 : MtOK 160 := ⟨List.mem_of_getElem? (i := 1375) (by decide +kernel), List.mem_of_getElem? (i := 77) (by decide +kernel), by decide +kernel, by decide +kernel⟩
theorem mt_161 : MtOK 161 := ⟨List.mem_of_getElem? (i := 1382) (by decide +kernel), List.mem_of_getElem? (i := 77) (by decide +kernel), by decide +kernel, by decide +kernel⟩
theorem mt_162 : MtOK 162 := ⟨List.mem_of_getElem? (i := 1389) (by decide +kernel), List.mem_of_getElem? (i := 77) (by decide +kernel), by decide +kernel, by decide +kernel⟩
theorem mt_163 : MtOK 163 := ⟨List.mem_of_getElem? (i := 1386) (by decide +kernel), List.mem_of_getElem? (i := 77) (by decide +kernel), by decide +kernel, by decide +kernel⟩
theorem mt_164 : MtOK 164 := ⟨List.mem_of_getElem? (i := 1393) (by decide +kernel), List.mem_of_getElem? (i := 77) (by decide +kernel), by decide +kernel, by decide +kernel⟩
theorem mt_165 : MtOK 165 := ⟨List.mem_of_getElem? (i := 1401) (by decide +kernel), List.mem_of_getElem? (i := 77) (by decide +kernel), by decide +kernel, by decide +kernel⟩
theorem mt_166 : MtOK 166 := ⟨List.mem_of_getElem? (i := 1397) (by decide +kernel), List.mem_of_getElem? (i := 77) (by decide +kernel), by decide +kernel, by decide +kernel⟩
theorem mt_167 : MtOK 167 := ⟨List.mem_of_getElem? (i := 1405) (by decide +kernel), List.mem_of_getElem? (i := 77) (by decide +kernel), by decide +kernel, by decide +kernel⟩
theorem mt_168 : MtOK 168 := ⟨List.mem_of_getElem? (i := 1409) (by decide +kernel), List.mem_of_getElem? (i := 77) (by decide +kernel), by decide +kernel, by decide +kernel⟩
theorem mt_169 : MtOK 169 := ⟨List.mem_of_getElem? (i := 1418) (by decide +kernel), List.mem_of_getElem? (i := 77) (by decide +kernel), by decide +kernel, by decide +kernel⟩
theorem mt_170 : MtOK 170 := ⟨List.mem_of_getElem? (i := 1423) (by decide +kernel), List.mem_of_getElem? (i := 77) (by decide +kernel), by decide +kernel, by decide +kernel⟩
theorem mt_171 : MtOK 171 := ⟨List.mem_of_getElem? (i := 1413) (by decide +kernel), List.mem_of_getElem? (i := 77) (by decide +kernel), by decide +kernel, by decide +kernel⟩
theorem mt_172 : MtOK 172 := ⟨List.mem_of_getElem? (i := 96) (by decide +kernel), List.mem_of_getElem? (i := 71) (by decide +kernel), by decide +kernel, by decide +kernel⟩
theorem mt_173 : MtOK 173 := ⟨List.mem_of_getElem? (i := 395) (by decide +kernel), List.mem_of_getElem? (i := 71) (by decide +kernel), by decide +kernel, by decide +kernel⟩
theorem mt_174 : MtOK 174 := ⟨List.mem_of_getElem? (i := 460) (by decide +kernel), List.mem_of_getElem? (i := 71) (by decide +kernel), by decide +kernel, by decide +kernel⟩
theorem mt_175 : MtOK 175 := ⟨List.mem_of_getElem? (i := 440) (by decide +kernel), List.mem_of_getElem? (i := 71) (by decide +kernel), by decide +kernel, by decide +kernel⟩
theorem mt_176 : MtOK 176 := ⟨List.mem_of_getElem? (i := 432) (by decide +kernel), List.mem_of_getElem? (i := 71) (by decide +kernel), by decide +kernel, by decide +kernel⟩
theorem mt_177 : MtOK 177 := ⟨List.mem_of_getElem? (i := 452) (by decide +kernel), List.mem_of_getElem? (i := 71) (by decide +kernel), by decide +kernel, by decide +kernel⟩
theorem mt_178 : MtOK 178 := ⟨List.mem_of_getElem? (i := 406) (by decide +kernel), List.mem_of_getElem? (i := 71) (by decide +kernel), by decide +kernel, by decide +kernel⟩
theorem mt_179 : MtOK 179 := ⟨List.mem_of_getElem? (i := 399) (by decide +kernel), List.mem_of_getElem? (i := 71) (by decide +kernel), by decide +kernel, by decide +kernel⟩
theorem mt_180 : MtOK 180 := ⟨List.mem_of_getElem? (i := 665) (by decide +kernel), List.mem_of_getElem? (i := 71) (by decide +kernel), by decide +kernel, by decide +kernel⟩
theorem mt_181 : MtOK 181 := ⟨List.mem_of_getElem? (i := 767) (by decide +kernel), List.mem_of_getElem? (i := 71) (by decide +kernel), by decide +kernel, by decide +kernel⟩
theorem mt_182 : MtOK 182 := ⟨List.mem_of_getElem? (i := 555) (by decide +kernel), List.mem_of_getElem? (i := 71) (by decide +kernel), by decide +kernel, by decide +kernel⟩
theorem mt_183 : MtOK 183 := ⟨List.mem_of_getElem? (i := 551) (by decide +kernel), List.mem_of_getElem? (i := 71) (by decide +kernel), by decide +kernel, by decide +kernel⟩
theorem mt_184 : MtOK 184 := ⟨List.mem_of_getElem? (i := 578) (by decide +kernel), List.mem_of_getElem? (i := 71) (by decide +kernel), by decide +kernel, by decide +kernel⟩
theorem mt_185 : MtOK 185 := ⟨List.mem_of_getElem? (i := 602) (by decide +kernel), List.mem_of_getElem? (i := 71) (by decide +kernel), by decide +kernel, by decide +kernel⟩
theorem mt_186 : MtOK 186 := ⟨List.mem_of_getElem? (i := 609) (by decide +kernel), List.mem_of_getElem? (i := 71) (by decide +kernel), by decide +kernel, by decide +kernel⟩
theorem mt_187 : MtOK 187 := ⟨List.mem_of_getElem? (i := 849) (by decide +kernel), List.mem_of_getElem? (i := 71) (by decide +kernel), by decide +kernel, by decide +kernel⟩
theorem mt_188 : MtOK 188 := ⟨List.mem_of_getElem? (i := 475) (by decide +kernel), List.mem_of_getElem? (i := 71) (by decide +kernel), by decide +kernel, by decide +kernel⟩
theorem mt_189 : MtOK 189 := ⟨List.mem_of_getElem? (i := 479) (by decide +kernel), List.mem_of_getElem? (i := 71) (by decide +kernel), by decide +kernel, by decide +kernel⟩
theorem mt_190 : MtOK 190 := ⟨List.mem_of_getElem? (i := 483) (by decide +kernel), List.mem_of_getElem? (i := 71) (by decide +kernel), by decide +kernel, by decide +kernel⟩
theorem mt_191 : MtOK 191 := ⟨List.mem_of_getElem? (i := 879) (by decide +kernel), List.mem_of_getElem? (i := 71) (by decide +kernel), by decide +kernel, by decide +kernel⟩
theorem mt_192 : MtOK 192 := ⟨List.mem_of_getElem? (i := 503) (by decide +kernel), List.mem_of_getElem? (i := 71) (by decide +kernel), by decide +kernel, by decide +kernel⟩
theorem mt_193 : MtOK 193 := ⟨List.mem_of_getElem? (i := 516) (by decide +kernel), List.mem_of_getElem? (i := 71) (by decide +kernel), by decide +kernel, by decide +kernel⟩
theorem mt_194 : MtOK 194 := ⟨List.mem_of_getElem? (i := 907) (by decide +kernel), List.mem_of_getElem? (i := 71) (by decide +kernel), by decide +kernel, by decide +kernel⟩
theorem mt_195 : MtOK 195 := ⟨List.mem_of_getElem? (i := 105) (by decide +kernel), List.mem_of_getElem? (i := 72) (by decide +kernel), by decide +kernel, by decide +kernel⟩
theorem mt_196 : MtOK 196 := ⟨List.mem_of_getElem? (i := 570) (by decide +kernel), List.mem_of_getElem? (i := 72) (by decide +kernel), by decide +kernel, by decide +kernel⟩
theorem mt_197 : MtOK 197 := ⟨List.mem_of_getElem? (i := 465) (by decide +kernel), List.mem_of_getElem? (i := 72) (by decide +kernel), by decide +kernel, by decide +kernel⟩
theorem mt_198 : MtOK 198 := ⟨List.mem_of_getElem? (i := 487) (by decide +kernel), List.mem_of_getElem? (i := 72) (by decide +kernel), by decide +kernel, by decide +kernel⟩
theorem mt_199 : MtOK 199 := ⟨List.mem_of_getElem? (i := 590) (by decide +kernel), List.mem_of_getElem? (i := 72) (by decide +kernel), by decide +kernel, by decide +kernel⟩
theorem mt_200 : MtOK 200 := ⟨List.mem_of_getElem? (i := 491) (by decide +kernel), List.mem_of_getElem? (i := 72) (by decide +kernel), by decide +kernel, by decide +kernel⟩
theorem mt_201 : MtOK 201 := ⟨List.mem_of_getElem? (i := 586) (by decide +kernel), List.mem_of_getElem? (i := 72) (by decide +kernel), by decide +kernel, by decide +kernel⟩
theorem mt_202 : MtOK 202 := ⟨List.mem_of_getElem? (i := 582) (by decide +kernel), List.mem_of_getElem? (i := 72) (by decide +kernel), by decide +kernel, by decide +kernel⟩
theorem mt_203 : MtOK 203 := ⟨List.mem_of_getElem? (i := 594) (by decide +kernel), List.mem_of_getElem? (i := 72) (by decide +kernel), by decide +kernel, by decide +kernel⟩
theorem mt_204 : MtOK 204 := ⟨List.mem_of_getElem? (i := 520) (by decide +kernel), List.mem_of_getElem? (i := 72) (by decide +kernel), by decide +kernel, by decide +kernel⟩
theorem mt_205 : MtOK 205 := ⟨List.mem_of_getElem? (i := 614) (by decide +kernel), List.mem_of_getElem? (i := 72) (by decide +kernel), by decide +kernel, by decide +kernel⟩
theorem mt_206 : MtOK 206 := ⟨List.mem_of_getElem? (i := 238) (by decide +kernel), List.mem_of_getElem? (i := 75) (by decide +kernel), by decide +kernel, by decide +kernel⟩
theorem mt_207 : MtOK 207 := ⟨List.mem_of_getElem? (i := 762) (by decide +kernel), List.mem_of_getElem? (i := 75) (by decide +kernel), by decide +kernel, by decide +kernel⟩
theorem mt_208 : MtOK 208 := ⟨List.mem_of_getElem? (i := 758) (by decide +kernel), List.mem_of_getElem? (i := 75) (by decide +kernel), by decide +kernel, by decide +kernel⟩
theorem mt_209 : MtOK 209 := ⟨List.mem_of_getElem? (i := 778) (by decide +kernel), List.mem_of_getElem? (i := 75) (by decide +kernel), by decide +kernel, by decide +kernel⟩
theorem mt_210 : MtOK 210 := ⟨List.mem_of_getElem? (i := 788) (by decide +kernel), List.mem_of_getElem? (i := 75) (by decide +kernel), by decide +kernel, by decide +kernel⟩
theorem mt_211 : MtOK 211 := ⟨List.mem_of_getElem? (i := 801) (by decide +kernel), List.mem_of_getElem? (i := 75) (by decide +kernel), by decide +kernel, by decide +kernel⟩
theorem mt_212 : MtOK 212 := ⟨List.mem_of_getElem? (i := 809) (by decide +kernel), List.mem_of_getElem? (i := 75) (by decide +kernel), by decide +kernel, by decide +kernel⟩
theorem mt_213 : MtOK 213 := ⟨List.mem_of_getElem? (i := 813) (by decide +kernel), List.mem_of_getElem? (i := 75) (by decide +kernel), by decide +kernel, by decide +kernel⟩
theorem mt_214 : MtOK 214 := ⟨List.mem_of_getElem? (i := 817) (by decide +kernel), List.mem_of_getElem? (i := 75) (by decide +kernel), by decide +kernel, by decide +kernel⟩
theorem mt_215 : MtOK 215 := ⟨List.mem_of_getElem? (i := 820) (by decide +kernel), List.mem_of_getElem? (i := 75) (by decide +kernel), by decide +kernel, by decide +kernel⟩
theorem mt_216 : MtOK 216 := ⟨List.mem_of_getElem? (i := 188) (by decide +kernel), List.mem_of_getElem? (i := 73) (by decide +kernel), by decide +kernel, by decide +kernel⟩
theorem mt_217 : MtOK 217 := ⟨List.mem_of_getElem? (i := 391) (by decide +kernel), List.mem_of_getElem? (i := 73) (by decide +kernel), by decide +kernel, by decide +kernel⟩
theorem mt_218 : MtOK 218 := ⟨List.mem_of_getElem? (i := 413) (by decide +kernel), List.mem_of_getElem? (i := 73) (by decide +kernel), by decide +kernel, by decide +kernel⟩
theorem mt_219 : MtOK 219 := ⟨List.mem_of_getElem? (i := 425) (by decide +kernel), List.mem_of_getElem? (i := 73) (by decide +kernel), by decide +kernel, by decide +kernel⟩
theorem mt_220 : MtOK 220 := ⟨List.mem_of_getElem? (i := 417) (by decide +kernel), List.mem_of_getElem? (i := 73) (by decide +kernel), by decide +kernel, by decide +kernel⟩
theorem mt_221 : MtOK 221 := ⟨List.mem_of_getElem? (i := 436) (by decide +kernel), List.mem_of_getElem? (i := 73) (by decide +kernel), by decide +kernel, by decide +kernel⟩
theorem mt_222 : MtOK 222 := ⟨List.mem_of_getElem? (i := 444) (by decide +kernel), List.mem_of_getElem? (i := 73) (by decide +kernel), by decide +kernel, by decide +kernel⟩
theorem mt_223 : MtOK 223 := ⟨List.mem_of_getElem? (i := 448) (by decide +kernel), List.mem_of_getElem? (i := 73) (by decide +kernel), by decide +kernel, by decide +kernel⟩
theorem mt_224 : MtOK 224 := ⟨List.mem_of_getElem? (i := 261) (by decide +kernel), List.mem_of_getElem? (i := 76) (by decide +kernel), by decide +kernel, by decide +kernel⟩
theorem mt_225 : MtOK 225 := ⟨List.mem_of_getElem? (i := 340) (by decide +kernel), List.mem_of_getElem? (i := 76) (by decide +kernel), by decide +kernel, by decide +kernel⟩
theorem mt_226 : MtOK 226 := ⟨List.mem_of_getElem? (i := 336) (by decide +kernel), List.mem_of_getElem? (i := 76) (by decide +kernel), by decide +kernel, by decide +kernel⟩
theorem mt_227 : MtOK 227 := ⟨List.mem_of_getElem? (i := 361) (by decide +kernel), List.mem_of_getElem? (i := 76) (by decide +kernel), by decide +kernel, by decide +kernel⟩
theorem mt_228 : MtOK 228 := ⟨List.mem_of_getElem? (i := 325) (by decide +kernel), List.mem_of_getElem? (i := 76) (by decide +kernel), by decide +kernel, by decide +kernel⟩
theorem mt_229 : MtOK 229 := ⟨List.mem_of_getElem? (i := 632) (by decide +kernel), List.mem_of_getElem? (i := 76) (by decide +kernel), by decide +kernel, by decide +kernel⟩
theorem mt_230 : MtOK 230 := ⟨List.mem_of_getElem? (i := 372) (by decide +kernel), List.mem_of_getElem? (i := 76) (by decide +kernel), by decide +kernel, by decide +kernel⟩
theorem mt_231 : MtOK 231 := ⟨List.mem_of_getElem? (i := 913) (by decide +kernel), List.mem_of_getElem? (i := 76) (by decide +kernel), by decide +kernel, by decide +kernel⟩
theorem mt_232 : MtOK 232 := ⟨List.mem_of_getElem? (i := 211) (by decide +kernel), List.mem_of_getElem? (i := 74) (by decide +kernel), by decide +kernel, by decide +kernel⟩
theorem mt_233 : MtOK 233 := ⟨List.mem_of_getElem? (i := 659) (by decide +kernel), List.mem_of_getElem? (i := 74) (by decide +kernel), by decide +kernel, by decide +kernel⟩
theorem mt_234 : MtOK 234 := ⟨List.mem_of_getElem? (i := 734) (by decide +kernel), List.mem_of_getElem? (i := 74) (by decide +kernel), by decide +kernel, by decide +kernel⟩
theorem mt_235 : MtOK 235 := ⟨List.mem_of_getElem? (i := 725) (by decide +kernel), List.mem_of_getElem? (i := 74) (by decide +kernel), by decide +kernel, by decide +kernel⟩
theorem mt_236 : MtOK 236 := ⟨List.mem_of_getElem? (i := 655) (by decide +kernel), List.mem_of_getElem? (i := 74) (by decide +kernel), by decide +kernel, by decide +kernel⟩
theorem mt_237 : MtOK 237 := ⟨List.mem_of_getElem? (i := 716) (by decide +kernel), List.mem_of_getElem? (i := 74) (by decide +kernel), by decide +kernel, by decide +kernel⟩
theorem mt_238 : MtOK 238 := ⟨List.mem_of_getElem? (i := 721) (by decide +kernel), List.mem_of_getElem? (i := 74) (by decide +kernel), by decide +kernel, by decide +kernel⟩
theorem mt_239 : MtOK 239 := ⟨List.mem_of_getElem? (i := 674) (by decide +kernel), List.mem_of_getElem? (i := 74) (by decide +kernel), by decide +kernel, by decide +kernel⟩
theorem mt_240 : MtOK 240 := ⟨List.mem_of_getElem? (i := 742) (by decide +kernel), List.mem_of_getElem? (i := 74) (by decide +kernel), by decide +kernel, by decide +kernel⟩
theorem mt_241 : MtOK 241 := ⟨List.mem_of_getElem? (i := 679) (by decide +kernel), List.mem_of_getElem? (i := 74) (by decide +kernel), by decide +kernel, by decide +kernel⟩
theorem mt_242 : MtOK 242 := ⟨List.mem_of_getElem? (i := 683) (by decide +kernel), List.mem_of_getElem? (i := 74) (by decide +kernel), by decide +kernel, by decide +kernel⟩
theorem mt_243 : MtOK 243 := ⟨List.mem_of_getElem? (i := 688) (by decide +kernel), List.mem_of_getElem? (i := 74) (by decide +kernel), by decide +kernel, by decide +kernel⟩
theorem mt_244 : MtOK 244 := ⟨List.mem_of_getElem? (i := 692) (by decide +kernel), List.mem_of_getElem? (i := 74) (by decide +kernel), by decide +kernel, by decide +kernel⟩
theorem mt_245 : MtOK 245 := ⟨List.mem_of_getElem? (i := 697) (by decide +kernel), List.mem_of_getElem? (i := 74) (by decide +kernel), by decide +kernel, by decide +kernel⟩
theorem mt_246 : MtOK 246 := ⟨List.mem_of_getElem? (i := 750) (by decide +kernel), List.mem_of_getElem? (i := 74) (by decide +kernel), by decide +kernel, by decide +kernel⟩
theorem mt_247 : MtOK 247 := ⟨List.mem_of_getElem? (i := 746) (by decide +kernel), List.mem_of_getElem? (i := 74) (by decide +kernel), by decide +kernel, by decide +kernel⟩
theorem mt_250 : MtOK 250 := ⟨List.mem_of_getElem? (i := 506) (by decide +kernel), List.mem_of_getElem? (i := 81) (by decide +kernel), by decide +kernel, by decide +kernel⟩
theorem mt_251 : MtOK 251 := ⟨List.mem_of_getElem? (i := 708) (by decide +kernel), List.mem_of_getElem? (i := 78) (by decide +kernel), by decide +kernel, by decide +kernel⟩
theorem mt_252 : MtOK 252 := ⟨List.mem_of_getElem? (i := 328) (by decide +kernel), List.mem_of_getElem? (i := 78) (by decide +kernel), by decide +kernel, by decide +kernel⟩
theorem mt_254 : MtOK 254 := ⟨List.mem_of_getElem? (i := 402) (by decide +kernel), List.mem_of_getElem? (i := 80) (by decide +kernel), by decide +kernel, by decide +kernel⟩
/-- a call link: of the owner, at a pool place, to the method mi; 0 virtual, 1 static, 2 static of a nest mate -/
def MthOK (q : Nat × Nat × Nat × Nat) : Prop := match q.2.2.2 with
  | 0 => Cond.methodLink (ownN q.1) q.2.1 (mtY q.2.2.1) ∈ lw_tbl ∧ Cond.instanceMethod (mtY q.2.2.1) ∈ lw_tbl ∧ Cond.selects (mtY q.2.2.1).cls (mtY q.2.2.1) (mtY q.2.2.1) ∈ lw_tbl
  | 1 => Cond.methodLink (ownN q.1) q.2.1 (mtY q.2.2.1) ∈ lw_tbl ∧ Cond.static (mtY q.2.2.1) ∈ lw_tbl
  | _ => Cond.methodLinkNest (ownN q.1) q.2.1 (mtY q.2.2.1) "BlindPost" ∈ lw_tbl ∧ Cond.static (mtY q.2.2.1) ∈ lw_tbl
def mthL0 : List (Nat × Nat × Nat × Nat) := [(0, 55, 179, 0), (0, 64, 197, 0), (0, 68, 178, 0), (0, 72, 64, 2), (0, 76, 254, 1), (0, 82, 67, 2), (0, 86, 65, 2), (0, 89, 69, 2), (0, 92, 182, 0), (0, 96, 200, 0), (0, 100, 202, 0), (0, 104, 198, 0), (0, 108, 203, 0), (0, 114, 185, 0), (0, 121, 183, 0), (0, 124, 201, 0), (0, 127, 205, 0), (0, 131, 184, 0), (0, 135, 250, 1), (0, 144, 66, 2), (0, 147, 186, 0), (0, 151, 189, 0), (0, 154, 190, 0), (0, 157, 193, 0), (0, 160, 204, 0), (0, 165, 188, 0), (1, 34, 198, 0), (1, 38, 201, 0), (1, 42, 199, 0), (1, 45, 64, 2)]
theorem ml_0_55_179_0 : MthOK (0, 55, 179, 0) := ⟨List.mem_of_getElem? (i := 396) (by decide +kernel), List.mem_of_getElem? (i := 397) (by decide +kernel), List.mem_of_getElem? (i := 398) (by decide +kernel)⟩
theorem ml_0_64_197_0 : MthOK (0, 64, 197, 0) := ⟨List.mem_of_getElem? (i := 462) (by decide +kernel), List.mem_of_getElem? (i := 463) (by decide +kernel), List.mem_of_getElem? (i := 464) (by decide +kernel)⟩
theorem ml_0_68_178_0 : MthOK (0, 68, 178, 0) := ⟨List.mem_of_getElem? (i := 403) (by decide +kernel), List.mem_of_getElem? (i := 405) (by decide +kernel), List.mem_of_getElem? (i := 2) (by decide +kernel)⟩
theorem ml_0_72_64_2 : MthOK (0, 72, 64, 2) := ⟨List.mem_of_getElem? (i := 407) (by decide +kernel), List.mem_of_getElem? (i := 408) (by decide +kernel)⟩
theorem ml_0_76_254_1 : MthOK (0, 76, 254, 1) := ⟨List.mem_of_getElem? (i := 400) (by decide +kernel), List.mem_of_getElem? (i := 401) (by decide +kernel)⟩
theorem ml_0_82_67_2 : MthOK (0, 82, 67, 2) := ⟨List.mem_of_getElem? (i := 610) (by decide +kernel), List.mem_of_getElem? (i := 498) (by decide +kernel)⟩
theorem ml_0_86_65_2 : MthOK (0, 86, 65, 2) := ⟨List.mem_of_getElem? (i := 596) (by decide +kernel), List.mem_of_getElem? (i := 597) (by decide +kernel)⟩
theorem ml_0_89_69_2 : MthOK (0, 89, 69, 2) := ⟨List.mem_of_getElem? (i := 510) (by decide +kernel), List.mem_of_getElem? (i := 511) (by decide +kernel)⟩
theorem ml_0_92_182_0 : MthOK (0, 92, 182, 0) := ⟨List.mem_of_getElem? (i := 552) (by decide +kernel), List.mem_of_getElem? (i := 553) (by decide +kernel), List.mem_of_getElem? (i := 554) (by decide +kernel)⟩
theorem ml_0_96_200_0 : MthOK (0, 96, 200, 0) := ⟨List.mem_of_getElem? (i := 488) (by decide +kernel), List.mem_of_getElem? (i := 489) (by decide +kernel), List.mem_of_getElem? (i := 490) (by decide +kernel)⟩
theorem ml_0_100_202_0 : MthOK (0, 100, 202, 0) := ⟨List.mem_of_getElem? (i := 579) (by decide +kernel), List.mem_of_getElem? (i := 580) (by decide +kernel), List.mem_of_getElem? (i := 581) (by decide +kernel)⟩
theorem ml_0_104_198_0 : MthOK (0, 104, 198, 0) := ⟨List.mem_of_getElem? (i := 484) (by decide +kernel), List.mem_of_getElem? (i := 485) (by decide +kernel), List.mem_of_getElem? (i := 486) (by decide +kernel)⟩
theorem ml_0_108_203_0 : MthOK (0, 108, 203, 0) := ⟨List.mem_of_getElem? (i := 591) (by decide +kernel), List.mem_of_getElem? (i := 592) (by decide +kernel), List.mem_of_getElem? (i := 593) (by decide +kernel)⟩
theorem ml_0_114_185_0 : MthOK (0, 114, 185, 0) := ⟨List.mem_of_getElem? (i := 599) (by decide +kernel), List.mem_of_getElem? (i := 601) (by decide +kernel), List.mem_of_getElem? (i := 13) (by decide +kernel)⟩
theorem ml_0_121_183_0 : MthOK (0, 121, 183, 0) := ⟨List.mem_of_getElem? (i := 603) (by decide +kernel), List.mem_of_getElem? (i := 549) (by decide +kernel), List.mem_of_getElem? (i := 550) (by decide +kernel)⟩
theorem ml_0_124_201_0 : MthOK (0, 124, 201, 0) := ⟨List.mem_of_getElem? (i := 604) (by decide +kernel), List.mem_of_getElem? (i := 584) (by decide +kernel), List.mem_of_getElem? (i := 585) (by decide +kernel)⟩
theorem ml_0_127_205_0 : MthOK (0, 127, 205, 0) := ⟨List.mem_of_getElem? (i := 611) (by decide +kernel), List.mem_of_getElem? (i := 612) (by decide +kernel), List.mem_of_getElem? (i := 613) (by decide +kernel)⟩
theorem ml_0_131_184_0 : MthOK (0, 131, 184, 0) := ⟨List.mem_of_getElem? (i := 850) (by decide +kernel), List.mem_of_getElem? (i := 576) (by decide +kernel), List.mem_of_getElem? (i := 577) (by decide +kernel)⟩
theorem ml_0_135_250_1 : MthOK (0, 135, 250, 1) := ⟨List.mem_of_getElem? (i := 504) (by decide +kernel), List.mem_of_getElem? (i := 505) (by decide +kernel)⟩
theorem ml_0_144_66_2 : MthOK (0, 144, 66, 2) := ⟨List.mem_of_getElem? (i := 853) (by decide +kernel), List.mem_of_getElem? (i := 854) (by decide +kernel)⟩
theorem ml_0_147_186_0 : MthOK (0, 147, 186, 0) := ⟨List.mem_of_getElem? (i := 856) (by decide +kernel), List.mem_of_getElem? (i := 607) (by decide +kernel), List.mem_of_getElem? (i := 608) (by decide +kernel)⟩
theorem ml_0_151_189_0 : MthOK (0, 151, 189, 0) := ⟨List.mem_of_getElem? (i := 476) (by decide +kernel), List.mem_of_getElem? (i := 478) (by decide +kernel), List.mem_of_getElem? (i := 9) (by decide +kernel)⟩
theorem ml_0_154_190_0 : MthOK (0, 154, 190, 0) := ⟨List.mem_of_getElem? (i := 480) (by decide +kernel), List.mem_of_getElem? (i := 482) (by decide +kernel), List.mem_of_getElem? (i := 10) (by decide +kernel)⟩
theorem ml_0_157_193_0 : MthOK (0, 157, 193, 0) := ⟨List.mem_of_getElem? (i := 513) (by decide +kernel), List.mem_of_getElem? (i := 515) (by decide +kernel), List.mem_of_getElem? (i := 11) (by decide +kernel)⟩
theorem ml_0_160_204_0 : MthOK (0, 160, 204, 0) := ⟨List.mem_of_getElem? (i := 517) (by decide +kernel), List.mem_of_getElem? (i := 518) (by decide +kernel), List.mem_of_getElem? (i := 519) (by decide +kernel)⟩
theorem ml_0_165_188_0 : MthOK (0, 165, 188, 0) := ⟨List.mem_of_getElem? (i := 909) (by decide +kernel), List.mem_of_getElem? (i := 473) (by decide +kernel), List.mem_of_getElem? (i := 474) (by decide +kernel)⟩
theorem ml_1_34_198_0 : MthOK (1, 34, 198, 0) := ⟨List.mem_of_getElem? (i := 492) (by decide +kernel), List.mem_of_getElem? (i := 485) (by decide +kernel), List.mem_of_getElem? (i := 486) (by decide +kernel)⟩
theorem ml_1_38_201_0 : MthOK (1, 38, 201, 0) := ⟨List.mem_of_getElem? (i := 583) (by decide +kernel), List.mem_of_getElem? (i := 584) (by decide +kernel), List.mem_of_getElem? (i := 585) (by decide +kernel)⟩
theorem ml_1_42_199_0 : MthOK (1, 42, 199, 0) := ⟨List.mem_of_getElem? (i := 587) (by decide +kernel), List.mem_of_getElem? (i := 588) (by decide +kernel), List.mem_of_getElem? (i := 589) (by decide +kernel)⟩
theorem ml_1_45_64_2 : MthOK (1, 45, 64, 2) := ⟨List.mem_of_getElem? (i := 595) (by decide +kernel), List.mem_of_getElem? (i := 408) (by decide +kernel)⟩
set_option maxRecDepth 100000 in
theorem mthL0_ok : ∀ q ∈ mthL0, MthOK q := by
  unfold mthL0
  refine List.forall_mem_cons.mpr ⟨ml_0_55_179_0, ?_⟩
  refine List.forall_mem_cons.mpr ⟨ml_0_64_197_0, ?_⟩
  refine List.forall_mem_cons.mpr ⟨ml_0_68_178_0, ?_⟩
  refine List.forall_mem_cons.mpr ⟨ml_0_72_64_2, ?_⟩
  refine List.forall_mem_cons.mpr ⟨ml_0_76_254_1, ?_⟩
  refine List.forall_mem_cons.mpr ⟨ml_0_82_67_2, ?_⟩
  refine List.forall_mem_cons.mpr ⟨ml_0_86_65_2, ?_⟩
  refine List.forall_mem_cons.mpr ⟨ml_0_89_69_2, ?_⟩
  refine List.forall_mem_cons.mpr ⟨ml_0_92_182_0, ?_⟩
  refine List.forall_mem_cons.mpr ⟨ml_0_96_200_0, ?_⟩
  refine List.forall_mem_cons.mpr ⟨ml_0_100_202_0, ?_⟩
  refine List.forall_mem_cons.mpr ⟨ml_0_104_198_0, ?_⟩
  refine List.forall_mem_cons.mpr ⟨ml_0_108_203_0, ?_⟩
  refine List.forall_mem_cons.mpr ⟨ml_0_114_185_0, ?_⟩
  refine List.forall_mem_cons.mpr ⟨ml_0_121_183_0, ?_⟩
  refine List.forall_mem_cons.mpr ⟨ml_0_124_201_0, ?_⟩
  refine List.forall_mem_cons.mpr ⟨ml_0_127_205_0, ?_⟩
  refine List.forall_mem_cons.mpr ⟨ml_0_131_184_0, ?_⟩
  refine List.forall_mem_cons.mpr ⟨ml_0_135_250_1, ?_⟩
  refine List.forall_mem_cons.mpr ⟨ml_0_144_66_2, ?_⟩
  refine List.forall_mem_cons.mpr ⟨ml_0_147_186_0, ?_⟩
  refine List.forall_mem_cons.mpr ⟨ml_0_151_189_0, ?_⟩
  refine List.forall_mem_cons.mpr ⟨ml_0_154_190_0, ?_⟩
  refine List.forall_mem_cons.mpr ⟨ml_0_157_193_0, ?_⟩
  refine List.forall_mem_cons.mpr ⟨ml_0_160_204_0, ?_⟩
  refine List.forall_mem_cons.mpr ⟨ml_0_165_188_0, ?_⟩
  refine List.forall_mem_cons.mpr ⟨ml_1_34_198_0, ?_⟩
  refine List.forall_mem_cons.mpr ⟨ml_1_38_201_0, ?_⟩
  refine List.forall_mem_cons.mpr ⟨ml_1_42_199_0, ?_⟩
  refine List.forall_mem_cons.mpr ⟨ml_1_45_64_2, ?_⟩
  exact fun _ h => absurd h List.not_mem_nil
def mthL1 : List (Nat × Nat × Nat × Nat) := [(2, 35, 65, 2), (2, 39, 181, 0), (2, 43, 64, 2), (2, 46, 207, 0), (2, 50, 233, 0), (2, 55, 234, 0), (2, 61, 208, 0), (2, 64, 250, 1), (2, 69, 209, 0), (2, 72, 213, 0), (2, 76, 215, 1), (2, 79, 214, 0), (3, 28, 173, 0), (3, 42, 218, 0), (3, 46, 220, 0), (3, 49, 219, 0), (3, 52, 221, 0), (3, 55, 222, 0), (3, 58, 223, 0), (3, 64, 68, 2), (3, 71, 176, 0), (3, 75, 55, 2), (3, 81, 64, 2), (3, 84, 175, 0), (3, 87, 177, 0), (4, 19, 225, 0), (5, 37, 182, 0), (5, 41, 64, 2), (5, 45, 180, 0), (5, 51, 235, 0)]
theorem ml_2_35_65_2 : MthOK (2, 35, 65, 2) := ⟨List.mem_of_getElem? (i := 763) (by decide +kernel), List.mem_of_getElem? (i := 597) (by decide +kernel)⟩
theorem ml_2_39_181_0 : MthOK (2, 39, 181, 0) := ⟨List.mem_of_getElem? (i := 764) (by decide +kernel), List.mem_of_getElem? (i := 765) (by decide +kernel), List.mem_of_getElem? (i := 766) (by decide +kernel)⟩
theorem ml_2_43_64_2 : MthOK (2, 43, 64, 2) := ⟨List.mem_of_getElem? (i := 768) (by decide +kernel), List.mem_of_getElem? (i := 408) (by decide +kernel)⟩
theorem ml_2_46_207_0 : MthOK (2, 46, 207, 0) := ⟨List.mem_of_getElem? (i := 759) (by decide +kernel), List.mem_of_getElem? (i := 761) (by decide +kernel), List.mem_of_getElem? (i := 20) (by decide +kernel)⟩
theorem ml_2_50_233_0 : MthOK (2, 50, 233, 0) := ⟨List.mem_of_getElem? (i := 769) (by decide +kernel), List.mem_of_getElem? (i := 657) (by decide +kernel), List.mem_of_getElem? (i := 658) (by decide +kernel)⟩
theorem ml_2_55_234_0 : MthOK (2, 55, 234, 0) := ⟨List.mem_of_getElem? (i := 770) (by decide +kernel), List.mem_of_getElem? (i := 732) (by decide +kernel), List.mem_of_getElem? (i := 733) (by decide +kernel)⟩
theorem ml_2_61_208_0 : MthOK (2, 61, 208, 0) := ⟨List.mem_of_getElem? (i := 779) (by decide +kernel), List.mem_of_getElem? (i := 756) (by decide +kernel), List.mem_of_getElem? (i := 757) (by decide +kernel)⟩
theorem ml_2_64_250_1 : MthOK (2, 64, 250, 1) := ⟨List.mem_of_getElem? (i := 780) (by decide +kernel), List.mem_of_getElem? (i := 505) (by decide +kernel)⟩
theorem ml_2_69_209_0 : MthOK (2, 69, 209, 0) := ⟨List.mem_of_getElem? (i := 789) (by decide +kernel), List.mem_of_getElem? (i := 776) (by decide +kernel), List.mem_of_getElem? (i := 777) (by decide +kernel)⟩
theorem ml_2_72_213_0 : MthOK (2, 72, 213, 0) := ⟨List.mem_of_getElem? (i := 810) (by decide +kernel), List.mem_of_getElem? (i := 812) (by decide +kernel), List.mem_of_getElem? (i := 21) (by decide +kernel)⟩
theorem ml_2_76_215_1 : MthOK (2, 76, 215, 1) := ⟨List.mem_of_getElem? (i := 818) (by decide +kernel), List.mem_of_getElem? (i := 819) (by decide +kernel)⟩
theorem ml_2_79_214_0 : MthOK (2, 79, 214, 0) := ⟨List.mem_of_getElem? (i := 814) (by decide +kernel), List.mem_of_getElem? (i := 816) (by decide +kernel), List.mem_of_getElem? (i := 22) (by decide +kernel)⟩
theorem ml_3_28_173_0 : MthOK (3, 28, 173, 0) := ⟨List.mem_of_getElem? (i := 392) (by decide +kernel), List.mem_of_getElem? (i := 393) (by decide +kernel), List.mem_of_getElem? (i := 394) (by decide +kernel)⟩
theorem ml_3_42_218_0 : MthOK (3, 42, 218, 0) := ⟨List.mem_of_getElem? (i := 410) (by decide +kernel), List.mem_of_getElem? (i := 412) (by decide +kernel), List.mem_of_getElem? (i := 3) (by decide +kernel)⟩
theorem ml_3_46_220_0 : MthOK (3, 46, 220, 0) := ⟨List.mem_of_getElem? (i := 414) (by decide +kernel), List.mem_of_getElem? (i := 416) (by decide +kernel), List.mem_of_getElem? (i := 4) (by decide +kernel)⟩
theorem ml_3_49_219_0 : MthOK (3, 49, 219, 0) := ⟨List.mem_of_getElem? (i := 422) (by decide +kernel), List.mem_of_getElem? (i := 424) (by decide +kernel), List.mem_of_getElem? (i := 5) (by decide +kernel)⟩
theorem ml_3_52_221_0 : MthOK (3, 52, 221, 0) := ⟨List.mem_of_getElem? (i := 433) (by decide +kernel), List.mem_of_getElem? (i := 435) (by decide +kernel), List.mem_of_getElem? (i := 6) (by decide +kernel)⟩
theorem ml_3_55_222_0 : MthOK (3, 55, 222, 0) := ⟨List.mem_of_getElem? (i := 441) (by decide +kernel), List.mem_of_getElem? (i := 443) (by decide +kernel), List.mem_of_getElem? (i := 7) (by decide +kernel)⟩
theorem ml_3_58_223_0 : MthOK (3, 58, 223, 0) := ⟨List.mem_of_getElem? (i := 445) (by decide +kernel), List.mem_of_getElem? (i := 447) (by decide +kernel), List.mem_of_getElem? (i := 8) (by decide +kernel)⟩
theorem ml_3_64_68_2 : MthOK (3, 64, 68, 2) := ⟨List.mem_of_getElem? (i := 426) (by decide +kernel), List.mem_of_getElem? (i := 427) (by decide +kernel)⟩
theorem ml_3_71_176_0 : MthOK (3, 71, 176, 0) := ⟨List.mem_of_getElem? (i := 429) (by decide +kernel), List.mem_of_getElem? (i := 430) (by decide +kernel), List.mem_of_getElem? (i := 431) (by decide +kernel)⟩
theorem ml_3_75_55_2 : MthOK (3, 75, 55, 2) := ⟨List.mem_of_getElem? (i := 418) (by decide +kernel), List.mem_of_getElem? (i := 419) (by decide +kernel)⟩
theorem ml_3_81_64_2 : MthOK (3, 81, 64, 2) := ⟨List.mem_of_getElem? (i := 421) (by decide +kernel), List.mem_of_getElem? (i := 408) (by decide +kernel)⟩
theorem ml_3_84_175_0 : MthOK (3, 84, 175, 0) := ⟨List.mem_of_getElem? (i := 437) (by decide +kernel), List.mem_of_getElem? (i := 438) (by decide +kernel), List.mem_of_getElem? (i := 439) (by decide +kernel)⟩
theorem ml_3_87_177_0 : MthOK (3, 87, 177, 0) := ⟨List.mem_of_getElem? (i := 449) (by decide +kernel), List.mem_of_getElem? (i := 450) (by decide +kernel), List.mem_of_getElem? (i := 451) (by decide +kernel)⟩
theorem ml_4_19_225_0 : MthOK (4, 19, 225, 0) := ⟨List.mem_of_getElem? (i := 337) (by decide +kernel), List.mem_of_getElem? (i := 338) (by decide +kernel), List.mem_of_getElem? (i := 339) (by decide +kernel)⟩
theorem ml_5_37_182_0 : MthOK (5, 37, 182, 0) := ⟨List.mem_of_getElem? (i := 660) (by decide +kernel), List.mem_of_getElem? (i := 553) (by decide +kernel), List.mem_of_getElem? (i := 554) (by decide +kernel)⟩
theorem ml_5_41_64_2 : MthOK (5, 41, 64, 2) := ⟨List.mem_of_getElem? (i := 661) (by decide +kernel), List.mem_of_getElem? (i := 408) (by decide +kernel)⟩
theorem ml_5_45_180_0 : MthOK (5, 45, 180, 0) := ⟨List.mem_of_getElem? (i := 662) (by decide +kernel), List.mem_of_getElem? (i := 663) (by decide +kernel), List.mem_of_getElem? (i := 664) (by decide +kernel)⟩
theorem ml_5_51_235_0 : MthOK (5, 51, 235, 0) := ⟨List.mem_of_getElem? (i := 722) (by decide +kernel), List.mem_of_getElem? (i := 724) (by decide +kernel), List.mem_of_getElem? (i := 19) (by decide +kernel)⟩
set_option maxRecDepth 100000 in
theorem mthL1_ok : ∀ q ∈ mthL1, MthOK q := by
  unfold mthL1
  refine List.forall_mem_cons.mpr ⟨ml_2_35_65_2, ?_⟩
  refine List.forall_mem_cons.mpr ⟨ml_2_39_181_0, ?_⟩
  refine List.forall_mem_cons.mpr ⟨ml_2_43_64_2, ?_⟩
  refine List.forall_mem_cons.mpr ⟨ml_2_46_207_0, ?_⟩
  refine List.forall_mem_cons.mpr ⟨ml_2_50_233_0, ?_⟩
  refine List.forall_mem_cons.mpr ⟨ml_2_55_234_0, ?_⟩
  refine List.forall_mem_cons.mpr ⟨ml_2_61_208_0, ?_⟩
  refine List.forall_mem_cons.mpr ⟨ml_2_64_250_1, ?_⟩
  refine List.forall_mem_cons.mpr ⟨ml_2_69_209_0, ?_⟩
  refine List.forall_mem_cons.mpr ⟨ml_2_72_213_0, ?_⟩
  refine List.forall_mem_cons.mpr ⟨ml_2_76_215_1, ?_⟩
  refine List.forall_mem_cons.mpr ⟨ml_2_79_214_0, ?_⟩
  refine List.forall_mem_cons.mpr ⟨ml_3_28_173_0, ?_⟩
  refine List.forall_mem_cons.mpr ⟨ml_3_42_218_0, ?_⟩
  refine List.forall_mem_cons.mpr ⟨ml_3_46_220_0, ?_⟩
  refine List.forall_mem_cons.mpr ⟨ml_3_49_219_0, ?_⟩
  refine List.forall_mem_cons.mpr ⟨ml_3_52_221_0, ?_⟩
  refine List.forall_mem_cons.mpr ⟨ml_3_55_222_0, ?_⟩
  refine List.forall_mem_cons.mpr ⟨ml_3_58_223_0, ?_⟩
  refine List.forall_mem_cons.mpr ⟨ml_3_64_68_2, ?_⟩
  refine List.forall_mem_cons.mpr ⟨ml_3_71_176_0, ?_⟩
  refine List.forall_mem_cons.mpr ⟨ml_3_75_55_2, ?_⟩
  refine List.forall_mem_cons.mpr ⟨ml_3_81_64_2, ?_⟩
  refine List.forall_mem_cons.mpr ⟨ml_3_84_175_0, ?_⟩
  refine List.forall_mem_cons.mpr ⟨ml_3_87_177_0, ?_⟩
  refine List.forall_mem_cons.mpr ⟨ml_4_19_225_0, ?_⟩
  refine List.forall_mem_cons.mpr ⟨ml_5_37_182_0, ?_⟩
  refine List.forall_mem_cons.mpr ⟨ml_5_41_64_2, ?_⟩
  refine List.forall_mem_cons.mpr ⟨ml_5_45_180_0, ?_⟩
  refine List.forall_mem_cons.mpr ⟨ml_5_51_235_0, ?_⟩
  exact fun _ h => absurd h List.not_mem_nil
def mthL2 : List (Nat × Nat × Nat × Nat) := [(5, 54, 65, 2), (5, 58, 233, 0), (5, 65, 250, 1), (5, 70, 238, 0), (5, 74, 183, 0), (5, 77, 242, 0), (5, 82, 245, 0), (5, 86, 243, 0), (5, 89, 244, 0), (6, 75, 52, 1), (6, 79, 50, 0), (6, 83, 228, 0), (6, 87, 226, 0), (6, 93, 51, 0), (6, 96, 225, 0), (6, 103, 227, 0), (6, 113, 230, 0), (6, 117, 53, 1), (6, 120, 217, 0), (6, 124, 174, 0), (6, 130, 175, 0), (6, 133, 188, 0), (6, 140, 67, 1), (6, 143, 192, 0), (6, 146, 55, 1), (6, 152, 64, 1), (6, 155, 58, 0), (6, 161, 177, 0), (6, 165, 179, 0), (6, 168, 56, 1)]
theorem ml_5_54_65_2 : MthOK (5, 54, 65, 2) := ⟨List.mem_of_getElem? (i := 666) (by decide +kernel), List.mem_of_getElem? (i := 597) (by decide +kernel)⟩
theorem ml_5_58_233_0 : MthOK (5, 58, 233, 0) := ⟨List.mem_of_getElem? (i := 656) (by decide +kernel), List.mem_of_getElem? (i := 657) (by decide +kernel), List.mem_of_getElem? (i := 658) (by decide +kernel)⟩
theorem ml_5_65_250_1 : MthOK (5, 65, 250, 1) := ⟨List.mem_of_getElem? (i := 717) (by decide +kernel), List.mem_of_getElem? (i := 505) (by decide +kernel)⟩
theorem ml_5_70_238_0 : MthOK (5, 70, 238, 0) := ⟨List.mem_of_getElem? (i := 718) (by decide +kernel), List.mem_of_getElem? (i := 720) (by decide +kernel), List.mem_of_getElem? (i := 18) (by decide +kernel)⟩
theorem ml_5_74_183_0 : MthOK (5, 74, 183, 0) := ⟨List.mem_of_getElem? (i := 675) (by decide +kernel), List.mem_of_getElem? (i := 549) (by decide +kernel), List.mem_of_getElem? (i := 550) (by decide +kernel)⟩
theorem ml_5_77_242_0 : MthOK (5, 77, 242, 0) := ⟨List.mem_of_getElem? (i := 680) (by decide +kernel), List.mem_of_getElem? (i := 682) (by decide +kernel), List.mem_of_getElem? (i := 14) (by decide +kernel)⟩
theorem ml_5_82_245_0 : MthOK (5, 82, 245, 0) := ⟨List.mem_of_getElem? (i := 694) (by decide +kernel), List.mem_of_getElem? (i := 696) (by decide +kernel), List.mem_of_getElem? (i := 17) (by decide +kernel)⟩
theorem ml_5_86_243_0 : MthOK (5, 86, 243, 0) := ⟨List.mem_of_getElem? (i := 685) (by decide +kernel), List.mem_of_getElem? (i := 687) (by decide +kernel), List.mem_of_getElem? (i := 15) (by decide +kernel)⟩
theorem ml_5_89_244_0 : MthOK (5, 89, 244, 0) := ⟨List.mem_of_getElem? (i := 689) (by decide +kernel), List.mem_of_getElem? (i := 691) (by decide +kernel), List.mem_of_getElem? (i := 16) (by decide +kernel)⟩
theorem ml_6_75_52_1 : MthOK (6, 75, 52, 1) := ⟨List.mem_of_getElem? (i := 315) (by decide +kernel), List.mem_of_getElem? (i := 316) (by decide +kernel)⟩
theorem ml_6_79_50_0 : MthOK (6, 79, 50, 0) := ⟨List.mem_of_getElem? (i := 318) (by decide +kernel), List.mem_of_getElem? (i := 320) (by decide +kernel), List.mem_of_getElem? (i := 0) (by decide +kernel)⟩
theorem ml_6_83_228_0 : MthOK (6, 83, 228, 0) := ⟨List.mem_of_getElem? (i := 322) (by decide +kernel), List.mem_of_getElem? (i := 323) (by decide +kernel), List.mem_of_getElem? (i := 324) (by decide +kernel)⟩
theorem ml_6_87_226_0 : MthOK (6, 87, 226, 0) := ⟨List.mem_of_getElem? (i := 333) (by decide +kernel), List.mem_of_getElem? (i := 334) (by decide +kernel), List.mem_of_getElem? (i := 335) (by decide +kernel)⟩
theorem ml_6_93_51_0 : MthOK (6, 93, 51, 0) := ⟨List.mem_of_getElem? (i := 341) (by decide +kernel), List.mem_of_getElem? (i := 343) (by decide +kernel), List.mem_of_getElem? (i := 1) (by decide +kernel)⟩
theorem ml_6_96_225_0 : MthOK (6, 96, 225, 0) := ⟨List.mem_of_getElem? (i := 353) (by decide +kernel), List.mem_of_getElem? (i := 338) (by decide +kernel), List.mem_of_getElem? (i := 339) (by decide +kernel)⟩
theorem ml_6_103_227_0 : MthOK (6, 103, 227, 0) := ⟨List.mem_of_getElem? (i := 358) (by decide +kernel), List.mem_of_getElem? (i := 359) (by decide +kernel), List.mem_of_getElem? (i := 360) (by decide +kernel)⟩
theorem ml_6_113_230_0 : MthOK (6, 113, 230, 0) := ⟨List.mem_of_getElem? (i := 369) (by decide +kernel), List.mem_of_getElem? (i := 370) (by decide +kernel), List.mem_of_getElem? (i := 371) (by decide +kernel)⟩
theorem ml_6_117_53_1 : MthOK (6, 117, 53, 1) := ⟨List.mem_of_getElem? (i := 377) (by decide +kernel), List.mem_of_getElem? (i := 378) (by decide +kernel)⟩
theorem ml_6_120_217_0 : MthOK (6, 120, 217, 0) := ⟨List.mem_of_getElem? (i := 388) (by decide +kernel), List.mem_of_getElem? (i := 389) (by decide +kernel), List.mem_of_getElem? (i := 390) (by decide +kernel)⟩
theorem ml_6_124_174_0 : MthOK (6, 124, 174, 0) := ⟨List.mem_of_getElem? (i := 457) (by decide +kernel), List.mem_of_getElem? (i := 458) (by decide +kernel), List.mem_of_getElem? (i := 459) (by decide +kernel)⟩
theorem ml_6_130_175_0 : MthOK (6, 130, 175, 0) := ⟨List.mem_of_getElem? (i := 471) (by decide +kernel), List.mem_of_getElem? (i := 438) (by decide +kernel), List.mem_of_getElem? (i := 439) (by decide +kernel)⟩
theorem ml_6_133_188_0 : MthOK (6, 133, 188, 0) := ⟨List.mem_of_getElem? (i := 472) (by decide +kernel), List.mem_of_getElem? (i := 473) (by decide +kernel), List.mem_of_getElem? (i := 474) (by decide +kernel)⟩
theorem ml_6_140_67_1 : MthOK (6, 140, 67, 1) := ⟨List.mem_of_getElem? (i := 497) (by decide +kernel), List.mem_of_getElem? (i := 498) (by decide +kernel)⟩
theorem ml_6_143_192_0 : MthOK (6, 143, 192, 0) := ⟨List.mem_of_getElem? (i := 500) (by decide +kernel), List.mem_of_getElem? (i := 501) (by decide +kernel), List.mem_of_getElem? (i := 502) (by decide +kernel)⟩
theorem ml_6_146_55_1 : MthOK (6, 146, 55, 1) := ⟨List.mem_of_getElem? (i := 525) (by decide +kernel), List.mem_of_getElem? (i := 419) (by decide +kernel)⟩
theorem ml_6_152_64_1 : MthOK (6, 152, 64, 1) := ⟨List.mem_of_getElem? (i := 526) (by decide +kernel), List.mem_of_getElem? (i := 408) (by decide +kernel)⟩
theorem ml_6_155_58_0 : MthOK (6, 155, 58, 0) := ⟨List.mem_of_getElem? (i := 531) (by decide +kernel), List.mem_of_getElem? (i := 533) (by decide +kernel), List.mem_of_getElem? (i := 12) (by decide +kernel)⟩
theorem ml_6_161_177_0 : MthOK (6, 161, 177, 0) := ⟨List.mem_of_getElem? (i := 535) (by decide +kernel), List.mem_of_getElem? (i := 450) (by decide +kernel), List.mem_of_getElem? (i := 451) (by decide +kernel)⟩
theorem ml_6_165_179_0 : MthOK (6, 165, 179, 0) := ⟨List.mem_of_getElem? (i := 540) (by decide +kernel), List.mem_of_getElem? (i := 397) (by decide +kernel), List.mem_of_getElem? (i := 398) (by decide +kernel)⟩
theorem ml_6_168_56_1 : MthOK (6, 168, 56, 1) := ⟨List.mem_of_getElem? (i := 545) (by decide +kernel), List.mem_of_getElem? (i := 546) (by decide +kernel)⟩
set_option maxRecDepth 100000 in
theorem mthL2_ok : ∀ q ∈ mthL2, MthOK q := by
  unfold mthL2
  refine List.forall_mem_cons.mpr ⟨ml_5_54_65_2, ?_⟩
  refine List.forall_mem_cons.mpr ⟨ml_5_58_233_0, ?_⟩
  refine List.forall_mem_cons.mpr ⟨ml_5_65_250_1, ?_⟩
  refine List.forall_mem_cons.mpr ⟨ml_5_70_238_0, ?_⟩
  refine List.forall_mem_cons.mpr ⟨ml_5_74_183_0, ?_⟩
  refine List.forall_mem_cons.mpr ⟨ml_5_77_242_0, ?_⟩
  refine List.forall_mem_cons.mpr ⟨ml_5_82_245_0, ?_⟩
  refine List.forall_mem_cons.mpr ⟨ml_5_86_243_0, ?_⟩
  refine List.forall_mem_cons.mpr ⟨ml_5_89_244_0, ?_⟩
  refine List.forall_mem_cons.mpr ⟨ml_6_75_52_1, ?_⟩
  refine List.forall_mem_cons.mpr ⟨ml_6_79_50_0, ?_⟩
  refine List.forall_mem_cons.mpr ⟨ml_6_83_228_0, ?_⟩
  refine List.forall_mem_cons.mpr ⟨ml_6_87_226_0, ?_⟩
  refine List.forall_mem_cons.mpr ⟨ml_6_93_51_0, ?_⟩
  refine List.forall_mem_cons.mpr ⟨ml_6_96_225_0, ?_⟩
  refine List.forall_mem_cons.mpr ⟨ml_6_103_227_0, ?_⟩
  refine List.forall_mem_cons.mpr ⟨ml_6_113_230_0, ?_⟩
  refine List.forall_mem_cons.mpr ⟨ml_6_117_53_1, ?_⟩
  refine List.forall_mem_cons.mpr ⟨ml_6_120_217_0, ?_⟩
  refine List.forall_mem_cons.mpr ⟨ml_6_124_174_0, ?_⟩
  refine List.forall_mem_cons.mpr ⟨ml_6_130_175_0, ?_⟩
  refine List.forall_mem_cons.mpr ⟨ml_6_133_188_0, ?_⟩
  refine List.forall_mem_cons.mpr ⟨ml_6_140_67_1, ?_⟩
  refine List.forall_mem_cons.mpr ⟨ml_6_143_192_0, ?_⟩
  refine List.forall_mem_cons.mpr ⟨ml_6_146_55_1, ?_⟩
  refine List.forall_mem_cons.mpr ⟨ml_6_152_64_1, ?_⟩
  refine List.forall_mem_cons.mpr ⟨ml_6_155_58_0, ?_⟩
  refine List.forall_mem_cons.mpr ⟨ml_6_161_177_0, ?_⟩
  refine List.forall_mem_cons.mpr ⟨ml_6_165_179_0, ?_⟩
  refine List.forall_mem_cons.mpr ⟨ml_6_168_56_1, ?_⟩
  exact fun _ h => absurd h List.not_mem_nil
def mthL3 : List (Nat × Nat × Nat × Nat) := [(6, 171, 183, 0), (6, 174, 57, 1), (6, 191, 196, 0), (6, 197, 184, 0), (6, 201, 65, 1), (6, 204, 186, 0), (6, 208, 199, 0), (6, 212, 198, 0), (6, 221, 229, 0), (6, 225, 54, 1), (6, 228, 236, 0), (6, 232, 239, 0), (6, 235, 241, 0), (6, 245, 237, 0), (6, 249, 233, 0), (6, 252, 234, 0), (6, 255, 240, 0), (6, 258, 247, 0), (6, 261, 246, 0), (6, 264, 208, 0), (6, 267, 209, 0), (6, 276, 210, 0), (6, 279, 211, 0), (6, 282, 212, 0), (6, 285, 250, 1), (6, 290, 61, 0), (6, 293, 62, 1), (6, 298, 187, 0), (6, 301, 63, 1), (6, 304, 191, 0)]
theorem ml_6_171_183_0 : MthOK (6, 171, 183, 0) := ⟨List.mem_of_getElem? (i := 548) (by decide +kernel), List.mem_of_getElem? (i := 549) (by decide +kernel), List.mem_of_getElem? (i := 550) (by decide +kernel)⟩
theorem ml_6_174_57_1 : MthOK (6, 174, 57, 1) := ⟨List.mem_of_getElem? (i := 560) (by decide +kernel), List.mem_of_getElem? (i := 561) (by decide +kernel)⟩
theorem ml_6_191_196_0 : MthOK (6, 191, 196, 0) := ⟨List.mem_of_getElem? (i := 567) (by decide +kernel), List.mem_of_getElem? (i := 568) (by decide +kernel), List.mem_of_getElem? (i := 569) (by decide +kernel)⟩
theorem ml_6_197_184_0 : MthOK (6, 197, 184, 0) := ⟨List.mem_of_getElem? (i := 575) (by decide +kernel), List.mem_of_getElem? (i := 576) (by decide +kernel), List.mem_of_getElem? (i := 577) (by decide +kernel)⟩
theorem ml_6_201_65_1 : MthOK (6, 201, 65, 1) := ⟨List.mem_of_getElem? (i := 605) (by decide +kernel), List.mem_of_getElem? (i := 597) (by decide +kernel)⟩
theorem ml_6_204_186_0 : MthOK (6, 204, 186, 0) := ⟨List.mem_of_getElem? (i := 606) (by decide +kernel), List.mem_of_getElem? (i := 607) (by decide +kernel), List.mem_of_getElem? (i := 608) (by decide +kernel)⟩
theorem ml_6_208_199_0 : MthOK (6, 208, 199, 0) := ⟨List.mem_of_getElem? (i := 623) (by decide +kernel), List.mem_of_getElem? (i := 588) (by decide +kernel), List.mem_of_getElem? (i := 589) (by decide +kernel)⟩
theorem ml_6_212_198_0 : MthOK (6, 212, 198, 0) := ⟨List.mem_of_getElem? (i := 624) (by decide +kernel), List.mem_of_getElem? (i := 485) (by decide +kernel), List.mem_of_getElem? (i := 486) (by decide +kernel)⟩
theorem ml_6_221_229_0 : MthOK (6, 221, 229, 0) := ⟨List.mem_of_getElem? (i := 629) (by decide +kernel), List.mem_of_getElem? (i := 630) (by decide +kernel), List.mem_of_getElem? (i := 631) (by decide +kernel)⟩
theorem ml_6_225_54_1 : MthOK (6, 225, 54, 1) := ⟨List.mem_of_getElem? (i := 641) (by decide +kernel), List.mem_of_getElem? (i := 642) (by decide +kernel)⟩
theorem ml_6_228_236_0 : MthOK (6, 228, 236, 0) := ⟨List.mem_of_getElem? (i := 652) (by decide +kernel), List.mem_of_getElem? (i := 653) (by decide +kernel), List.mem_of_getElem? (i := 654) (by decide +kernel)⟩
theorem ml_6_232_239_0 : MthOK (6, 232, 239, 0) := ⟨List.mem_of_getElem? (i := 671) (by decide +kernel), List.mem_of_getElem? (i := 672) (by decide +kernel), List.mem_of_getElem? (i := 673) (by decide +kernel)⟩
theorem ml_6_235_241_0 : MthOK (6, 235, 241, 0) := ⟨List.mem_of_getElem? (i := 676) (by decide +kernel), List.mem_of_getElem? (i := 677) (by decide +kernel), List.mem_of_getElem? (i := 678) (by decide +kernel)⟩
theorem ml_6_245_237_0 : MthOK (6, 245, 237, 0) := ⟨List.mem_of_getElem? (i := 713) (by decide +kernel), List.mem_of_getElem? (i := 714) (by decide +kernel), List.mem_of_getElem? (i := 715) (by decide +kernel)⟩
theorem ml_6_249_233_0 : MthOK (6, 249, 233, 0) := ⟨List.mem_of_getElem? (i := 730) (by decide +kernel), List.mem_of_getElem? (i := 657) (by decide +kernel), List.mem_of_getElem? (i := 658) (by decide +kernel)⟩
theorem ml_6_252_234_0 : MthOK (6, 252, 234, 0) := ⟨List.mem_of_getElem? (i := 731) (by decide +kernel), List.mem_of_getElem? (i := 732) (by decide +kernel), List.mem_of_getElem? (i := 733) (by decide +kernel)⟩
theorem ml_6_255_240_0 : MthOK (6, 255, 240, 0) := ⟨List.mem_of_getElem? (i := 739) (by decide +kernel), List.mem_of_getElem? (i := 740) (by decide +kernel), List.mem_of_getElem? (i := 741) (by decide +kernel)⟩
theorem ml_6_258_247_0 : MthOK (6, 258, 247, 0) := ⟨List.mem_of_getElem? (i := 743) (by decide +kernel), List.mem_of_getElem? (i := 744) (by decide +kernel), List.mem_of_getElem? (i := 745) (by decide +kernel)⟩
theorem ml_6_261_246_0 : MthOK (6, 261, 246, 0) := ⟨List.mem_of_getElem? (i := 747) (by decide +kernel), List.mem_of_getElem? (i := 748) (by decide +kernel), List.mem_of_getElem? (i := 749) (by decide +kernel)⟩
theorem ml_6_264_208_0 : MthOK (6, 264, 208, 0) := ⟨List.mem_of_getElem? (i := 755) (by decide +kernel), List.mem_of_getElem? (i := 756) (by decide +kernel), List.mem_of_getElem? (i := 757) (by decide +kernel)⟩
theorem ml_6_267_209_0 : MthOK (6, 267, 209, 0) := ⟨List.mem_of_getElem? (i := 775) (by decide +kernel), List.mem_of_getElem? (i := 776) (by decide +kernel), List.mem_of_getElem? (i := 777) (by decide +kernel)⟩
theorem ml_6_276_210_0 : MthOK (6, 276, 210, 0) := ⟨List.mem_of_getElem? (i := 785) (by decide +kernel), List.mem_of_getElem? (i := 786) (by decide +kernel), List.mem_of_getElem? (i := 787) (by decide +kernel)⟩
theorem ml_6_279_211_0 : MthOK (6, 279, 211, 0) := ⟨List.mem_of_getElem? (i := 798) (by decide +kernel), List.mem_of_getElem? (i := 799) (by decide +kernel), List.mem_of_getElem? (i := 800) (by decide +kernel)⟩
theorem ml_6_282_212_0 : MthOK (6, 282, 212, 0) := ⟨List.mem_of_getElem? (i := 806) (by decide +kernel), List.mem_of_getElem? (i := 807) (by decide +kernel), List.mem_of_getElem? (i := 808) (by decide +kernel)⟩
theorem ml_6_285_250_1 : MthOK (6, 285, 250, 1) := ⟨List.mem_of_getElem? (i := 821) (by decide +kernel), List.mem_of_getElem? (i := 505) (by decide +kernel)⟩
theorem ml_6_290_61_0 : MthOK (6, 290, 61, 0) := ⟨List.mem_of_getElem? (i := 826) (by decide +kernel), List.mem_of_getElem? (i := 828) (by decide +kernel), List.mem_of_getElem? (i := 23) (by decide +kernel)⟩
theorem ml_6_293_62_1 : MthOK (6, 293, 62, 1) := ⟨List.mem_of_getElem? (i := 830) (by decide +kernel), List.mem_of_getElem? (i := 831) (by decide +kernel)⟩
theorem ml_6_298_187_0 : MthOK (6, 298, 187, 0) := ⟨List.mem_of_getElem? (i := 846) (by decide +kernel), List.mem_of_getElem? (i := 847) (by decide +kernel), List.mem_of_getElem? (i := 848) (by decide +kernel)⟩
theorem ml_6_301_63_1 : MthOK (6, 301, 63, 1) := ⟨List.mem_of_getElem? (i := 865) (by decide +kernel), List.mem_of_getElem? (i := 866) (by decide +kernel)⟩
theorem ml_6_304_191_0 : MthOK (6, 304, 191, 0) := ⟨List.mem_of_getElem? (i := 876) (by decide +kernel), List.mem_of_getElem? (i := 877) (by decide +kernel), List.mem_of_getElem? (i := 878) (by decide +kernel)⟩
set_option maxRecDepth 100000 in
theorem mthL3_ok : ∀ q ∈ mthL3, MthOK q := by
  unfold mthL3
  refine List.forall_mem_cons.mpr ⟨ml_6_171_183_0, ?_⟩
  refine List.forall_mem_cons.mpr ⟨ml_6_174_57_1, ?_⟩
  refine List.forall_mem_cons.mpr ⟨ml_6_191_196_0, ?_⟩
  refine List.forall_mem_cons.mpr ⟨ml_6_197_184_0, ?_⟩
  refine List.forall_mem_cons.mpr ⟨ml_6_201_65_1, ?_⟩
  refine List.forall_mem_cons.mpr ⟨ml_6_204_186_0, ?_⟩
  refine List.forall_mem_cons.mpr ⟨ml_6_208_199_0, ?_⟩
  refine List.forall_mem_cons.mpr ⟨ml_6_212_198_0, ?_⟩
  refine List.forall_mem_cons.mpr ⟨ml_6_221_229_0, ?_⟩
  refine List.forall_mem_cons.mpr ⟨ml_6_225_54_1, ?_⟩
  refine List.forall_mem_cons.mpr ⟨ml_6_228_236_0, ?_⟩
  refine List.forall_mem_cons.mpr ⟨ml_6_232_239_0, ?_⟩
  refine List.forall_mem_cons.mpr ⟨ml_6_235_241_0, ?_⟩
  refine List.forall_mem_cons.mpr ⟨ml_6_245_237_0, ?_⟩
  refine List.forall_mem_cons.mpr ⟨ml_6_249_233_0, ?_⟩
  refine List.forall_mem_cons.mpr ⟨ml_6_252_234_0, ?_⟩
  refine List.forall_mem_cons.mpr ⟨ml_6_255_240_0, ?_⟩
  refine List.forall_mem_cons.mpr ⟨ml_6_258_247_0, ?_⟩
  refine List.forall_mem_cons.mpr ⟨ml_6_261_246_0, ?_⟩
  refine List.forall_mem_cons.mpr ⟨ml_6_264_208_0, ?_⟩
  refine List.forall_mem_cons.mpr ⟨ml_6_267_209_0, ?_⟩
  refine List.forall_mem_cons.mpr ⟨ml_6_276_210_0, ?_⟩
  refine List.forall_mem_cons.mpr ⟨ml_6_279_211_0, ?_⟩
  refine List.forall_mem_cons.mpr ⟨ml_6_282_212_0, ?_⟩
  refine List.forall_mem_cons.mpr ⟨ml_6_285_250_1, ?_⟩
  refine List.forall_mem_cons.mpr ⟨ml_6_290_61_0, ?_⟩
  refine List.forall_mem_cons.mpr ⟨ml_6_293_62_1, ?_⟩
  refine List.forall_mem_cons.mpr ⟨ml_6_298_187_0, ?_⟩
  refine List.forall_mem_cons.mpr ⟨ml_6_301_63_1, ?_⟩
  refine List.forall_mem_cons.mpr ⟨ml_6_304_191_0, ?_⟩
  exact fun _ h => absurd h List.not_mem_nil
def mthL4 : List (Nat × Nat × Nat × Nat) := [(6, 307, 180, 0), (6, 310, 59, 0), (6, 314, 60, 0), (6, 321, 46, 0), (6, 324, 194, 0), (6, 328, 231, 0), (7, 72, 71, 1), (7, 76, 76, 1), (7, 80, 72, 0), (7, 84, 77, 1), (7, 87, 81, 0), (7, 91, 78, 0), (7, 94, 80, 0), (7, 98, 73, 0), (7, 101, 83, 0), (7, 104, 79, 0), (7, 110, 90, 0), (7, 113, 91, 1), (7, 122, 93, 0), (7, 125, 92, 0), (7, 128, 94, 0), (7, 143, 97, 0), (7, 146, 101, 0), (7, 150, 102, 0), (7, 153, 105, 0), (7, 156, 106, 0), (7, 159, 107, 0), (7, 162, 108, 0), (7, 165, 75, 1), (7, 168, 110, 0)]
theorem ml_6_307_180_0 : MthOK (6, 307, 180, 0) := ⟨List.mem_of_getElem? (i := 880) (by decide +kernel), List.mem_of_getElem? (i := 663) (by decide +kernel), List.mem_of_getElem? (i := 664) (by decide +kernel)⟩
theorem ml_6_310_59_0 : MthOK (6, 310, 59, 0) := ⟨List.mem_of_getElem? (i := 881) (by decide +kernel), List.mem_of_getElem? (i := 883) (by decide +kernel), List.mem_of_getElem? (i := 24) (by decide +kernel)⟩
theorem ml_6_314_60_0 : MthOK (6, 314, 60, 0) := ⟨List.mem_of_getElem? (i := 885) (by decide +kernel), List.mem_of_getElem? (i := 887) (by decide +kernel), List.mem_of_getElem? (i := 25) (by decide +kernel)⟩
theorem ml_6_321_46_0 : MthOK (6, 321, 46, 0) := ⟨List.mem_of_getElem? (i := 903) (by decide +kernel), List.mem_of_getElem? (i := 873) (by decide +kernel), List.mem_of_getElem? (i := 874) (by decide +kernel)⟩
theorem ml_6_324_194_0 : MthOK (6, 324, 194, 0) := ⟨List.mem_of_getElem? (i := 904) (by decide +kernel), List.mem_of_getElem? (i := 905) (by decide +kernel), List.mem_of_getElem? (i := 906) (by decide +kernel)⟩
theorem ml_6_328_231_0 : MthOK (6, 328, 231, 0) := ⟨List.mem_of_getElem? (i := 910) (by decide +kernel), List.mem_of_getElem? (i := 911) (by decide +kernel), List.mem_of_getElem? (i := 912) (by decide +kernel)⟩
theorem ml_7_72_71_1 : MthOK (7, 72, 71, 1) := ⟨List.mem_of_getElem? (i := 1028) (by decide +kernel), List.mem_of_getElem? (i := 1029) (by decide +kernel)⟩
theorem ml_7_76_76_1 : MthOK (7, 76, 76, 1) := ⟨List.mem_of_getElem? (i := 1025) (by decide +kernel), List.mem_of_getElem? (i := 1026) (by decide +kernel)⟩
theorem ml_7_80_72_0 : MthOK (7, 80, 72, 0) := ⟨List.mem_of_getElem? (i := 1031) (by decide +kernel), List.mem_of_getElem? (i := 1033) (by decide +kernel), List.mem_of_getElem? (i := 26) (by decide +kernel)⟩
theorem ml_7_84_77_1 : MthOK (7, 84, 77, 1) := ⟨List.mem_of_getElem? (i := 1076) (by decide +kernel), List.mem_of_getElem? (i := 1077) (by decide +kernel)⟩
theorem ml_7_87_81_0 : MthOK (7, 87, 81, 0) := ⟨List.mem_of_getElem? (i := 1035) (by decide +kernel), List.mem_of_getElem? (i := 1037) (by decide +kernel), List.mem_of_getElem? (i := 27) (by decide +kernel)⟩
theorem ml_7_91_78_0 : MthOK (7, 91, 78, 0) := ⟨List.mem_of_getElem? (i := 1043) (by decide +kernel), List.mem_of_getElem? (i := 1045) (by decide +kernel), List.mem_of_getElem? (i := 28) (by decide +kernel)⟩
theorem ml_7_94_80_0 : MthOK (7, 94, 80, 0) := ⟨List.mem_of_getElem? (i := 1047) (by decide +kernel), List.mem_of_getElem? (i := 1049) (by decide +kernel), List.mem_of_getElem? (i := 29) (by decide +kernel)⟩
theorem ml_7_98_73_0 : MthOK (7, 98, 73, 0) := ⟨List.mem_of_getElem? (i := 1051) (by decide +kernel), List.mem_of_getElem? (i := 1053) (by decide +kernel), List.mem_of_getElem? (i := 30) (by decide +kernel)⟩
theorem ml_7_101_83_0 : MthOK (7, 101, 83, 0) := ⟨List.mem_of_getElem? (i := 1059) (by decide +kernel), List.mem_of_getElem? (i := 1040) (by decide +kernel), List.mem_of_getElem? (i := 1041) (by decide +kernel)⟩
theorem ml_7_104_79_0 : MthOK (7, 104, 79, 0) := ⟨List.mem_of_getElem? (i := 1083) (by decide +kernel), List.mem_of_getElem? (i := 1085) (by decide +kernel), List.mem_of_getElem? (i := 31) (by decide +kernel)⟩
theorem ml_7_110_90_0 : MthOK (7, 110, 90, 0) := ⟨List.mem_of_getElem? (i := 1095) (by decide +kernel), List.mem_of_getElem? (i := 1097) (by decide +kernel), List.mem_of_getElem? (i := 33) (by decide +kernel)⟩
theorem ml_7_113_91_1 : MthOK (7, 113, 91, 1) := ⟨List.mem_of_getElem? (i := 1107) (by decide +kernel), List.mem_of_getElem? (i := 1108) (by decide +kernel)⟩
theorem ml_7_122_93_0 : MthOK (7, 122, 93, 0) := ⟨List.mem_of_getElem? (i := 1099) (by decide +kernel), List.mem_of_getElem? (i := 1101) (by decide +kernel), List.mem_of_getElem? (i := 34) (by decide +kernel)⟩
theorem ml_7_125_92_0 : MthOK (7, 125, 92, 0) := ⟨List.mem_of_getElem? (i := 1103) (by decide +kernel), List.mem_of_getElem? (i := 1105) (by decide +kernel), List.mem_of_getElem? (i := 35) (by decide +kernel)⟩
theorem ml_7_128_94_0 : MthOK (7, 128, 94, 0) := ⟨List.mem_of_getElem? (i := 1091) (by decide +kernel), List.mem_of_getElem? (i := 1093) (by decide +kernel), List.mem_of_getElem? (i := 32) (by decide +kernel)⟩
theorem ml_7_143_97_0 : MthOK (7, 143, 97, 0) := ⟨List.mem_of_getElem? (i := 1118) (by decide +kernel), List.mem_of_getElem? (i := 1120) (by decide +kernel), List.mem_of_getElem? (i := 36) (by decide +kernel)⟩
theorem ml_7_146_101_0 : MthOK (7, 146, 101, 0) := ⟨List.mem_of_getElem? (i := 1142) (by decide +kernel), List.mem_of_getElem? (i := 1144) (by decide +kernel), List.mem_of_getElem? (i := 41) (by decide +kernel)⟩
theorem ml_7_150_102_0 : MthOK (7, 150, 102, 0) := ⟨List.mem_of_getElem? (i := 1149) (by decide +kernel), List.mem_of_getElem? (i := 1151) (by decide +kernel), List.mem_of_getElem? (i := 42) (by decide +kernel)⟩
theorem ml_7_153_105_0 : MthOK (7, 153, 105, 0) := ⟨List.mem_of_getElem? (i := 1130) (by decide +kernel), List.mem_of_getElem? (i := 1132) (by decide +kernel), List.mem_of_getElem? (i := 39) (by decide +kernel)⟩
theorem ml_7_156_106_0 : MthOK (7, 156, 106, 0) := ⟨List.mem_of_getElem? (i := 1126) (by decide +kernel), List.mem_of_getElem? (i := 1128) (by decide +kernel), List.mem_of_getElem? (i := 38) (by decide +kernel)⟩
theorem ml_7_159_107_0 : MthOK (7, 159, 107, 0) := ⟨List.mem_of_getElem? (i := 1134) (by decide +kernel), List.mem_of_getElem? (i := 1136) (by decide +kernel), List.mem_of_getElem? (i := 40) (by decide +kernel)⟩
theorem ml_7_162_108_0 : MthOK (7, 162, 108, 0) := ⟨List.mem_of_getElem? (i := 1122) (by decide +kernel), List.mem_of_getElem? (i := 1124) (by decide +kernel), List.mem_of_getElem? (i := 37) (by decide +kernel)⟩
theorem ml_7_165_75_1 : MthOK (7, 165, 75, 1) := ⟨List.mem_of_getElem? (i := 1146) (by decide +kernel), List.mem_of_getElem? (i := 1147) (by decide +kernel)⟩
theorem ml_7_168_110_0 : MthOK (7, 168, 110, 0) := ⟨List.mem_of_getElem? (i := 1153) (by decide +kernel), List.mem_of_getElem? (i := 1155) (by decide +kernel), List.mem_of_getElem? (i := 43) (by decide +kernel)⟩
set_option maxRecDepth 100000 in
theorem mthL4_ok : ∀ q ∈ mthL4, MthOK q := by
  unfold mthL4
  refine List.forall_mem_cons.mpr ⟨ml_6_307_180_0, ?_⟩
  refine List.forall_mem_cons.mpr ⟨ml_6_310_59_0, ?_⟩
  refine List.forall_mem_cons.mpr ⟨ml_6_314_60_0, ?_⟩
  refine List.forall_mem_cons.mpr ⟨ml_6_321_46_0, ?_⟩
  refine List.forall_mem_cons.mpr ⟨ml_6_324_194_0, ?_⟩
  refine List.forall_mem_cons.mpr ⟨ml_6_328_231_0, ?_⟩
  refine List.forall_mem_cons.mpr ⟨ml_7_72_71_1, ?_⟩
  refine List.forall_mem_cons.mpr ⟨ml_7_76_76_1, ?_⟩
  refine List.forall_mem_cons.mpr ⟨ml_7_80_72_0, ?_⟩
  refine List.forall_mem_cons.mpr ⟨ml_7_84_77_1, ?_⟩
  refine List.forall_mem_cons.mpr ⟨ml_7_87_81_0, ?_⟩
  refine List.forall_mem_cons.mpr ⟨ml_7_91_78_0, ?_⟩
  refine List.forall_mem_cons.mpr ⟨ml_7_94_80_0, ?_⟩
  refine List.forall_mem_cons.mpr ⟨ml_7_98_73_0, ?_⟩
  refine List.forall_mem_cons.mpr ⟨ml_7_101_83_0, ?_⟩
  refine List.forall_mem_cons.mpr ⟨ml_7_104_79_0, ?_⟩
  refine List.forall_mem_cons.mpr ⟨ml_7_110_90_0, ?_⟩
  refine List.forall_mem_cons.mpr ⟨ml_7_113_91_1, ?_⟩
  refine List.forall_mem_cons.mpr ⟨ml_7_122_93_0, ?_⟩
  refine List.forall_mem_cons.mpr ⟨ml_7_125_92_0, ?_⟩
  refine List.forall_mem_cons.mpr ⟨ml_7_128_94_0, ?_⟩
  refine List.forall_mem_cons.mpr ⟨ml_7_143_97_0, ?_⟩
  refine List.forall_mem_cons.mpr ⟨ml_7_146_101_0, ?_⟩
  refine List.forall_mem_cons.mpr ⟨ml_7_150_102_0, ?_⟩
  refine List.forall_mem_cons.mpr ⟨ml_7_153_105_0, ?_⟩
  refine List.forall_mem_cons.mpr ⟨ml_7_156_106_0, ?_⟩
  refine List.forall_mem_cons.mpr ⟨ml_7_159_107_0, ?_⟩
  refine List.forall_mem_cons.mpr ⟨ml_7_162_108_0, ?_⟩
  refine List.forall_mem_cons.mpr ⟨ml_7_165_75_1, ?_⟩
  refine List.forall_mem_cons.mpr ⟨ml_7_168_110_0, ?_⟩
  exact fun _ h => absurd h List.not_mem_nil
def mthL5 : List (Nat × Nat × Nat × Nat) := [(7, 171, 104, 0), (7, 174, 99, 1), (7, 177, 98, 0), (7, 180, 100, 1), (7, 183, 103, 0), (7, 186, 117, 0), (7, 189, 119, 0), (7, 192, 120, 0), (7, 195, 74, 1), (7, 198, 123, 0), (7, 201, 121, 0), (7, 204, 122, 0), (7, 207, 82, 0), (7, 210, 132, 0), (7, 213, 131, 0), (7, 230, 135, 0), (7, 233, 134, 0), (7, 236, 136, 0), (7, 240, 137, 0), (7, 244, 141, 0), (7, 247, 145, 0), (7, 253, 147, 0), (7, 256, 148, 0), (7, 260, 150, 0), (7, 263, 155, 0), (7, 266, 156, 0), (7, 274, 162, 1), (7, 277, 165, 0), (7, 286, 169, 0), (7, 292, 170, 0)]
theorem ml_7_171_104_0 : MthOK (7, 171, 104, 0) := ⟨List.mem_of_getElem? (i := 1157) (by decide +kernel), List.mem_of_getElem? (i := 1159) (by decide +kernel), List.mem_of_getElem? (i := 44) (by decide +kernel)⟩
theorem ml_7_174_99_1 : MthOK (7, 174, 99, 1) := ⟨List.mem_of_getElem? (i := 1165) (by decide +kernel), List.mem_of_getElem? (i := 1166) (by decide +kernel)⟩
theorem ml_7_177_98_0 : MthOK (7, 177, 98, 0) := ⟨List.mem_of_getElem? (i := 1172) (by decide +kernel), List.mem_of_getElem? (i := 1174) (by decide +kernel), List.mem_of_getElem? (i := 45) (by decide +kernel)⟩
theorem ml_7_180_100_1 : MthOK (7, 180, 100, 1) := ⟨List.mem_of_getElem? (i := 1184) (by decide +kernel), List.mem_of_getElem? (i := 1185) (by decide +kernel)⟩
theorem ml_7_183_103_0 : MthOK (7, 183, 103, 0) := ⟨List.mem_of_getElem? (i := 1187) (by decide +kernel), List.mem_of_getElem? (i := 1189) (by decide +kernel), List.mem_of_getElem? (i := 46) (by decide +kernel)⟩
theorem ml_7_186_117_0 : MthOK (7, 186, 117, 0) := ⟨List.mem_of_getElem? (i := 1199) (by decide +kernel), List.mem_of_getElem? (i := 1201) (by decide +kernel), List.mem_of_getElem? (i := 47) (by decide +kernel)⟩
theorem ml_7_189_119_0 : MthOK (7, 189, 119, 0) := ⟨List.mem_of_getElem? (i := 1215) (by decide +kernel), List.mem_of_getElem? (i := 1217) (by decide +kernel), List.mem_of_getElem? (i := 50) (by decide +kernel)⟩
theorem ml_7_192_120_0 : MthOK (7, 192, 120, 0) := ⟨List.mem_of_getElem? (i := 1219) (by decide +kernel), List.mem_of_getElem? (i := 1221) (by decide +kernel), List.mem_of_getElem? (i := 51) (by decide +kernel)⟩
theorem ml_7_195_74_1 : MthOK (7, 195, 74, 1) := ⟨List.mem_of_getElem? (i := 1223) (by decide +kernel), List.mem_of_getElem? (i := 1224) (by decide +kernel)⟩
theorem ml_7_198_123_0 : MthOK (7, 198, 123, 0) := ⟨List.mem_of_getElem? (i := 1207) (by decide +kernel), List.mem_of_getElem? (i := 1209) (by decide +kernel), List.mem_of_getElem? (i := 48) (by decide +kernel)⟩
theorem ml_7_201_121_0 : MthOK (7, 201, 121, 0) := ⟨List.mem_of_getElem? (i := 1211) (by decide +kernel), List.mem_of_getElem? (i := 1213) (by decide +kernel), List.mem_of_getElem? (i := 49) (by decide +kernel)⟩
theorem ml_7_204_122_0 : MthOK (7, 204, 122, 0) := ⟨List.mem_of_getElem? (i := 1226) (by decide +kernel), List.mem_of_getElem? (i := 1228) (by decide +kernel), List.mem_of_getElem? (i := 52) (by decide +kernel)⟩
theorem ml_7_207_82_0 : MthOK (7, 207, 82, 0) := ⟨List.mem_of_getElem? (i := 1242) (by decide +kernel), List.mem_of_getElem? (i := 1022) (by decide +kernel), List.mem_of_getElem? (i := 1023) (by decide +kernel)⟩
theorem ml_7_210_132_0 : MthOK (7, 210, 132, 0) := ⟨List.mem_of_getElem? (i := 1259) (by decide +kernel), List.mem_of_getElem? (i := 1261) (by decide +kernel), List.mem_of_getElem? (i := 53) (by decide +kernel)⟩
theorem ml_7_213_131_0 : MthOK (7, 213, 131, 0) := ⟨List.mem_of_getElem? (i := 1263) (by decide +kernel), List.mem_of_getElem? (i := 1265) (by decide +kernel), List.mem_of_getElem? (i := 54) (by decide +kernel)⟩
theorem ml_7_230_135_0 : MthOK (7, 230, 135, 0) := ⟨List.mem_of_getElem? (i := 1280) (by decide +kernel), List.mem_of_getElem? (i := 1282) (by decide +kernel), List.mem_of_getElem? (i := 57) (by decide +kernel)⟩
theorem ml_7_233_134_0 : MthOK (7, 233, 134, 0) := ⟨List.mem_of_getElem? (i := 1284) (by decide +kernel), List.mem_of_getElem? (i := 1286) (by decide +kernel), List.mem_of_getElem? (i := 58) (by decide +kernel)⟩
theorem ml_7_236_136_0 : MthOK (7, 236, 136, 0) := ⟨List.mem_of_getElem? (i := 1276) (by decide +kernel), List.mem_of_getElem? (i := 1278) (by decide +kernel), List.mem_of_getElem? (i := 56) (by decide +kernel)⟩
theorem ml_7_240_137_0 : MthOK (7, 240, 137, 0) := ⟨List.mem_of_getElem? (i := 1271) (by decide +kernel), List.mem_of_getElem? (i := 1273) (by decide +kernel), List.mem_of_getElem? (i := 55) (by decide +kernel)⟩
theorem ml_7_244_141_0 : MthOK (7, 244, 141, 0) := ⟨List.mem_of_getElem? (i := 1300) (by decide +kernel), List.mem_of_getElem? (i := 1302) (by decide +kernel), List.mem_of_getElem? (i := 59) (by decide +kernel)⟩
theorem ml_7_247_145_0 : MthOK (7, 247, 145, 0) := ⟨List.mem_of_getElem? (i := 1316) (by decide +kernel), List.mem_of_getElem? (i := 1318) (by decide +kernel), List.mem_of_getElem? (i := 60) (by decide +kernel)⟩
theorem ml_7_253_147_0 : MthOK (7, 253, 147, 0) := ⟨List.mem_of_getElem? (i := 1328) (by decide +kernel), List.mem_of_getElem? (i := 1330) (by decide +kernel), List.mem_of_getElem? (i := 62) (by decide +kernel)⟩
theorem ml_7_256_148_0 : MthOK (7, 256, 148, 0) := ⟨List.mem_of_getElem? (i := 1324) (by decide +kernel), List.mem_of_getElem? (i := 1326) (by decide +kernel), List.mem_of_getElem? (i := 61) (by decide +kernel)⟩
theorem ml_7_260_150_0 : MthOK (7, 260, 150, 0) := ⟨List.mem_of_getElem? (i := 1336) (by decide +kernel), List.mem_of_getElem? (i := 1338) (by decide +kernel), List.mem_of_getElem? (i := 63) (by decide +kernel)⟩
theorem ml_7_263_155_0 : MthOK (7, 263, 155, 0) := ⟨List.mem_of_getElem? (i := 1356) (by decide +kernel), List.mem_of_getElem? (i := 1358) (by decide +kernel), List.mem_of_getElem? (i := 64) (by decide +kernel)⟩
theorem ml_7_266_156_0 : MthOK (7, 266, 156, 0) := ⟨List.mem_of_getElem? (i := 1360) (by decide +kernel), List.mem_of_getElem? (i := 1362) (by decide +kernel), List.mem_of_getElem? (i := 65) (by decide +kernel)⟩
theorem ml_7_274_162_1 : MthOK (7, 274, 162, 1) := ⟨List.mem_of_getElem? (i := 1387) (by decide +kernel), List.mem_of_getElem? (i := 1388) (by decide +kernel)⟩
theorem ml_7_277_165_0 : MthOK (7, 277, 165, 0) := ⟨List.mem_of_getElem? (i := 1398) (by decide +kernel), List.mem_of_getElem? (i := 1400) (by decide +kernel), List.mem_of_getElem? (i := 66) (by decide +kernel)⟩
theorem ml_7_286_169_0 : MthOK (7, 286, 169, 0) := ⟨List.mem_of_getElem? (i := 1415) (by decide +kernel), List.mem_of_getElem? (i := 1417) (by decide +kernel), List.mem_of_getElem? (i := 67) (by decide +kernel)⟩
theorem ml_7_292_170_0 : MthOK (7, 292, 170, 0) := ⟨List.mem_of_getElem? (i := 1420) (by decide +kernel), List.mem_of_getElem? (i := 1422) (by decide +kernel), List.mem_of_getElem? (i := 68) (by decide +kernel)⟩
set_option maxRecDepth 100000 in
theorem mthL5_ok : ∀ q ∈ mthL5, MthOK q := by
  unfold mthL5
  refine List.forall_mem_cons.mpr ⟨ml_7_171_104_0, ?_⟩
  refine List.forall_mem_cons.mpr ⟨ml_7_174_99_1, ?_⟩
  refine List.forall_mem_cons.mpr ⟨ml_7_177_98_0, ?_⟩
  refine List.forall_mem_cons.mpr ⟨ml_7_180_100_1, ?_⟩
  refine List.forall_mem_cons.mpr ⟨ml_7_183_103_0, ?_⟩
  refine List.forall_mem_cons.mpr ⟨ml_7_186_117_0, ?_⟩
  refine List.forall_mem_cons.mpr ⟨ml_7_189_119_0, ?_⟩
  refine List.forall_mem_cons.mpr ⟨ml_7_192_120_0, ?_⟩
  refine List.forall_mem_cons.mpr ⟨ml_7_195_74_1, ?_⟩
  refine List.forall_mem_cons.mpr ⟨ml_7_198_123_0, ?_⟩
  refine List.forall_mem_cons.mpr ⟨ml_7_201_121_0, ?_⟩
  refine List.forall_mem_cons.mpr ⟨ml_7_204_122_0, ?_⟩
  refine List.forall_mem_cons.mpr ⟨ml_7_207_82_0, ?_⟩
  refine List.forall_mem_cons.mpr ⟨ml_7_210_132_0, ?_⟩
  refine List.forall_mem_cons.mpr ⟨ml_7_213_131_0, ?_⟩
  refine List.forall_mem_cons.mpr ⟨ml_7_230_135_0, ?_⟩
  refine List.forall_mem_cons.mpr ⟨ml_7_233_134_0, ?_⟩
  refine List.forall_mem_cons.mpr ⟨ml_7_236_136_0, ?_⟩
  refine List.forall_mem_cons.mpr ⟨ml_7_240_137_0, ?_⟩
  refine List.forall_mem_cons.mpr ⟨ml_7_244_141_0, ?_⟩
  refine List.forall_mem_cons.mpr ⟨ml_7_247_145_0, ?_⟩
  refine List.forall_mem_cons.mpr ⟨ml_7_253_147_0, ?_⟩
  refine List.forall_mem_cons.mpr ⟨ml_7_256_148_0, ?_⟩
  refine List.forall_mem_cons.mpr ⟨ml_7_260_150_0, ?_⟩
  refine List.forall_mem_cons.mpr ⟨ml_7_263_155_0, ?_⟩
  refine List.forall_mem_cons.mpr ⟨ml_7_266_156_0, ?_⟩
  refine List.forall_mem_cons.mpr ⟨ml_7_274_162_1, ?_⟩
  refine List.forall_mem_cons.mpr ⟨ml_7_277_165_0, ?_⟩
  refine List.forall_mem_cons.mpr ⟨ml_7_286_169_0, ?_⟩
  refine List.forall_mem_cons.mpr ⟨ml_7_292_170_0, ?_⟩
  exact fun _ h => absurd h List.not_mem_nil
def mthL6 : List (Nat × Nat × Nat × Nat) := [(8, 13, 1, 0), (8, 17, 82, 0), (8, 18, 2, 0), (8, 22, 84, 0), (8, 23, 3, 0), (8, 26, 83, 0), (8, 27, 4, 0), (8, 31, 85, 0), (8, 32, 5, 0), (8, 36, 86, 0), (8, 37, 6, 0), (8, 40, 87, 0), (8, 41, 7, 0), (8, 44, 88, 0), (8, 45, 8, 0), (8, 48, 89, 0), (8, 49, 9, 0), (8, 52, 95, 0), (8, 53, 10, 0), (8, 56, 96, 0), (8, 57, 11, 0), (8, 60, 109, 0), (8, 61, 12, 0), (8, 64, 111, 0), (8, 65, 13, 0), (8, 68, 112, 0), (8, 69, 14, 0), (8, 72, 113, 0), (8, 73, 15, 0), (8, 76, 114, 0)]
theorem ml_8_13_1_0 : MthOK (8, 13, 1, 0) := ⟨List.mem_of_getElem? (i := 311) (by decide +kernel), List.mem_of_getElem? (i := 312) (by decide +kernel), List.mem_of_getElem? (i := 313) (by decide +kernel)⟩
theorem ml_8_17_82_0 : MthOK (8, 17, 82, 0) := ⟨List.mem_of_getElem? (i := 1021) (by decide +kernel), List.mem_of_getElem? (i := 1022) (by decide +kernel), List.mem_of_getElem? (i := 1023) (by decide +kernel)⟩
theorem ml_8_18_2_0 : MthOK (8, 18, 2, 0) := ⟨List.mem_of_getElem? (i := 329) (by decide +kernel), List.mem_of_getElem? (i := 330) (by decide +kernel), List.mem_of_getElem? (i := 331) (by decide +kernel)⟩
theorem ml_8_22_84_0 : MthOK (8, 22, 84, 0) := ⟨List.mem_of_getElem? (i := 1055) (by decide +kernel), List.mem_of_getElem? (i := 1056) (by decide +kernel), List.mem_of_getElem? (i := 1057) (by decide +kernel)⟩
theorem ml_8_23_3_0 : MthOK (8, 23, 3, 0) := ⟨List.mem_of_getElem? (i := 345) (by decide +kernel), List.mem_of_getElem? (i := 346) (by decide +kernel), List.mem_of_getElem? (i := 347) (by decide +kernel)⟩
theorem ml_8_26_83_0 : MthOK (8, 26, 83, 0) := ⟨List.mem_of_getElem? (i := 1039) (by decide +kernel), List.mem_of_getElem? (i := 1040) (by decide +kernel), List.mem_of_getElem? (i := 1041) (by decide +kernel)⟩
theorem ml_8_27_4_0 : MthOK (8, 27, 4, 0) := ⟨List.mem_of_getElem? (i := 349) (by decide +kernel), List.mem_of_getElem? (i := 350) (by decide +kernel), List.mem_of_getElem? (i := 351) (by decide +kernel)⟩
theorem ml_8_31_85_0 : MthOK (8, 31, 85, 0) := ⟨List.mem_of_getElem? (i := 1060) (by decide +kernel), List.mem_of_getElem? (i := 1061) (by decide +kernel), List.mem_of_getElem? (i := 1062) (by decide +kernel)⟩
theorem ml_8_32_5_0 : MthOK (8, 32, 5, 0) := ⟨List.mem_of_getElem? (i := 354) (by decide +kernel), List.mem_of_getElem? (i := 355) (by decide +kernel), List.mem_of_getElem? (i := 356) (by decide +kernel)⟩
theorem ml_8_36_86_0 : MthOK (8, 36, 86, 0) := ⟨List.mem_of_getElem? (i := 1064) (by decide +kernel), List.mem_of_getElem? (i := 1065) (by decide +kernel), List.mem_of_getElem? (i := 1066) (by decide +kernel)⟩
theorem ml_8_37_6_0 : MthOK (8, 37, 6, 0) := ⟨List.mem_of_getElem? (i := 365) (by decide +kernel), List.mem_of_getElem? (i := 366) (by decide +kernel), List.mem_of_getElem? (i := 367) (by decide +kernel)⟩
theorem ml_8_40_87_0 : MthOK (8, 40, 87, 0) := ⟨List.mem_of_getElem? (i := 1068) (by decide +kernel), List.mem_of_getElem? (i := 1069) (by decide +kernel), List.mem_of_getElem? (i := 1070) (by decide +kernel)⟩
theorem ml_8_41_7_0 : MthOK (8, 41, 7, 0) := ⟨List.mem_of_getElem? (i := 373) (by decide +kernel), List.mem_of_getElem? (i := 374) (by decide +kernel), List.mem_of_getElem? (i := 375) (by decide +kernel)⟩
theorem ml_8_44_88_0 : MthOK (8, 44, 88, 0) := ⟨List.mem_of_getElem? (i := 1072) (by decide +kernel), List.mem_of_getElem? (i := 1073) (by decide +kernel), List.mem_of_getElem? (i := 1074) (by decide +kernel)⟩
theorem ml_8_45_8_0 : MthOK (8, 45, 8, 0) := ⟨List.mem_of_getElem? (i := 380) (by decide +kernel), List.mem_of_getElem? (i := 381) (by decide +kernel), List.mem_of_getElem? (i := 382) (by decide +kernel)⟩
theorem ml_8_48_89_0 : MthOK (8, 48, 89, 0) := ⟨List.mem_of_getElem? (i := 1079) (by decide +kernel), List.mem_of_getElem? (i := 1080) (by decide +kernel), List.mem_of_getElem? (i := 1081) (by decide +kernel)⟩
theorem ml_8_49_9_0 : MthOK (8, 49, 9, 0) := ⟨List.mem_of_getElem? (i := 384) (by decide +kernel), List.mem_of_getElem? (i := 385) (by decide +kernel), List.mem_of_getElem? (i := 386) (by decide +kernel)⟩
theorem ml_8_52_95_0 : MthOK (8, 52, 95, 0) := ⟨List.mem_of_getElem? (i := 1087) (by decide +kernel), List.mem_of_getElem? (i := 1088) (by decide +kernel), List.mem_of_getElem? (i := 1089) (by decide +kernel)⟩
theorem ml_8_53_10_0 : MthOK (8, 53, 10, 0) := ⟨List.mem_of_getElem? (i := 453) (by decide +kernel), List.mem_of_getElem? (i := 454) (by decide +kernel), List.mem_of_getElem? (i := 455) (by decide +kernel)⟩
theorem ml_8_56_96_0 : MthOK (8, 56, 96, 0) := ⟨List.mem_of_getElem? (i := 1110) (by decide +kernel), List.mem_of_getElem? (i := 1111) (by decide +kernel), List.mem_of_getElem? (i := 1112) (by decide +kernel)⟩
theorem ml_8_57_11_0 : MthOK (8, 57, 11, 0) := ⟨List.mem_of_getElem? (i := 467) (by decide +kernel), List.mem_of_getElem? (i := 468) (by decide +kernel), List.mem_of_getElem? (i := 469) (by decide +kernel)⟩
theorem ml_8_60_109_0 : MthOK (8, 60, 109, 0) := ⟨List.mem_of_getElem? (i := 1114) (by decide +kernel), List.mem_of_getElem? (i := 1115) (by decide +kernel), List.mem_of_getElem? (i := 1116) (by decide +kernel)⟩
theorem ml_8_61_12_0 : MthOK (8, 61, 12, 0) := ⟨List.mem_of_getElem? (i := 493) (by decide +kernel), List.mem_of_getElem? (i := 494) (by decide +kernel), List.mem_of_getElem? (i := 495) (by decide +kernel)⟩
theorem ml_8_64_111_0 : MthOK (8, 64, 111, 0) := ⟨List.mem_of_getElem? (i := 1138) (by decide +kernel), List.mem_of_getElem? (i := 1139) (by decide +kernel), List.mem_of_getElem? (i := 1140) (by decide +kernel)⟩
theorem ml_8_65_13_0 : MthOK (8, 65, 13, 0) := ⟨List.mem_of_getElem? (i := 521) (by decide +kernel), List.mem_of_getElem? (i := 522) (by decide +kernel), List.mem_of_getElem? (i := 523) (by decide +kernel)⟩
theorem ml_8_68_112_0 : MthOK (8, 68, 112, 0) := ⟨List.mem_of_getElem? (i := 1161) (by decide +kernel), List.mem_of_getElem? (i := 1162) (by decide +kernel), List.mem_of_getElem? (i := 1163) (by decide +kernel)⟩
theorem ml_8_69_14_0 : MthOK (8, 69, 14, 0) := ⟨List.mem_of_getElem? (i := 527) (by decide +kernel), List.mem_of_getElem? (i := 528) (by decide +kernel), List.mem_of_getElem? (i := 529) (by decide +kernel)⟩
theorem ml_8_72_113_0 : MthOK (8, 72, 113, 0) := ⟨List.mem_of_getElem? (i := 1168) (by decide +kernel), List.mem_of_getElem? (i := 1169) (by decide +kernel), List.mem_of_getElem? (i := 1170) (by decide +kernel)⟩
theorem ml_8_73_15_0 : MthOK (8, 73, 15, 0) := ⟨List.mem_of_getElem? (i := 536) (by decide +kernel), List.mem_of_getElem? (i := 537) (by decide +kernel), List.mem_of_getElem? (i := 538) (by decide +kernel)⟩
theorem ml_8_76_114_0 : MthOK (8, 76, 114, 0) := ⟨List.mem_of_getElem? (i := 1176) (by decide +kernel), List.mem_of_getElem? (i := 1177) (by decide +kernel), List.mem_of_getElem? (i := 1178) (by decide +kernel)⟩
set_option maxRecDepth 100000 in
theorem mthL6_ok : ∀ q ∈ mthL6, MthOK q := by
  unfold mthL6
  refine List.forall_mem_cons.mpr ⟨ml_8_13_1_0, ?_⟩
  refine List.forall_mem_cons.mpr ⟨ml_8_17_82_0, ?_⟩
  refine List.forall_mem_cons.mpr ⟨ml_8_18_2_0, ?_⟩
  refine List.forall_mem_cons.mpr ⟨ml_8_22_84_0, ?_⟩
  refine List.forall_mem_cons.mpr ⟨ml_8_23_3_0, ?_⟩
  refine List.forall_mem_cons.mpr ⟨ml_8_26_83_0, ?_⟩
  refine List.forall_mem_cons.mpr ⟨ml_8_27_4_0, ?_⟩
  refine List.forall_mem_cons.mpr ⟨ml_8_31_85_0, ?_⟩
  refine List.forall_mem_cons.mpr ⟨ml_8_32_5_0, ?_⟩
  refine List.forall_mem_cons.mpr ⟨ml_8_36_86_0, ?_⟩
  refine List.forall_mem_cons.mpr ⟨ml_8_37_6_0, ?_⟩
  refine List.forall_mem_cons.mpr ⟨ml_8_40_87_0, ?_⟩
  refine List.forall_mem_cons.mpr ⟨ml_8_41_7_0, ?_⟩
  refine List.forall_mem_cons.mpr ⟨ml_8_44_88_0, ?_⟩
  refine List.forall_mem_cons.mpr ⟨ml_8_45_8_0, ?_⟩
  refine List.forall_mem_cons.mpr ⟨ml_8_48_89_0, ?_⟩
  refine List.forall_mem_cons.mpr ⟨ml_8_49_9_0, ?_⟩
  refine List.forall_mem_cons.mpr ⟨ml_8_52_95_0, ?_⟩
  refine List.forall_mem_cons.mpr ⟨ml_8_53_10_0, ?_⟩
  refine List.forall_mem_cons.mpr ⟨ml_8_56_96_0, ?_⟩
  refine List.forall_mem_cons.mpr ⟨ml_8_57_11_0, ?_⟩
  refine List.forall_mem_cons.mpr ⟨ml_8_60_109_0, ?_⟩
  refine List.forall_mem_cons.mpr ⟨ml_8_61_12_0, ?_⟩
  refine List.forall_mem_cons.mpr ⟨ml_8_64_111_0, ?_⟩
  refine List.forall_mem_cons.mpr ⟨ml_8_65_13_0, ?_⟩
  refine List.forall_mem_cons.mpr ⟨ml_8_68_112_0, ?_⟩
  refine List.forall_mem_cons.mpr ⟨ml_8_69_14_0, ?_⟩
  refine List.forall_mem_cons.mpr ⟨ml_8_72_113_0, ?_⟩
  refine List.forall_mem_cons.mpr ⟨ml_8_73_15_0, ?_⟩
  refine List.forall_mem_cons.mpr ⟨ml_8_76_114_0, ?_⟩
  exact fun _ h => absurd h List.not_mem_nil
def mthL7 : List (Nat × Nat × Nat × Nat) := [(8, 77, 16, 0), (8, 80, 115, 0), (8, 81, 17, 0), (8, 84, 116, 0), (8, 85, 18, 0), (8, 88, 118, 0), (8, 89, 19, 0), (8, 92, 124, 0), (8, 93, 20, 0), (8, 96, 125, 0), (8, 97, 21, 0), (8, 100, 126, 0), (8, 101, 22, 0), (8, 104, 127, 0), (8, 105, 23, 0), (8, 108, 128, 0), (8, 109, 24, 0), (8, 112, 129, 0), (8, 113, 25, 0), (8, 116, 130, 0), (8, 117, 26, 0), (8, 121, 133, 0), (8, 122, 27, 0), (8, 125, 138, 0), (8, 126, 28, 0), (8, 129, 139, 0), (8, 130, 29, 0), (8, 133, 140, 0), (8, 134, 30, 0), (8, 137, 142, 0)]
theorem ml_8_77_16_0 : MthOK (8, 77, 16, 0) := ⟨List.mem_of_getElem? (i := 541) (by decide +kernel), List.mem_of_getElem? (i := 542) (by decide +kernel), List.mem_of_getElem? (i := 543) (by decide +kernel)⟩
theorem ml_8_80_115_0 : MthOK (8, 80, 115, 0) := ⟨List.mem_of_getElem? (i := 1180) (by decide +kernel), List.mem_of_getElem? (i := 1181) (by decide +kernel), List.mem_of_getElem? (i := 1182) (by decide +kernel)⟩
theorem ml_8_81_17_0 : MthOK (8, 81, 17, 0) := ⟨List.mem_of_getElem? (i := 556) (by decide +kernel), List.mem_of_getElem? (i := 557) (by decide +kernel), List.mem_of_getElem? (i := 558) (by decide +kernel)⟩
theorem ml_8_84_116_0 : MthOK (8, 84, 116, 0) := ⟨List.mem_of_getElem? (i := 1191) (by decide +kernel), List.mem_of_getElem? (i := 1192) (by decide +kernel), List.mem_of_getElem? (i := 1193) (by decide +kernel)⟩
theorem ml_8_85_18_0 : MthOK (8, 85, 18, 0) := ⟨List.mem_of_getElem? (i := 563) (by decide +kernel), List.mem_of_getElem? (i := 564) (by decide +kernel), List.mem_of_getElem? (i := 565) (by decide +kernel)⟩
theorem ml_8_88_118_0 : MthOK (8, 88, 118, 0) := ⟨List.mem_of_getElem? (i := 1195) (by decide +kernel), List.mem_of_getElem? (i := 1196) (by decide +kernel), List.mem_of_getElem? (i := 1197) (by decide +kernel)⟩
theorem ml_8_89_19_0 : MthOK (8, 89, 19, 0) := ⟨List.mem_of_getElem? (i := 571) (by decide +kernel), List.mem_of_getElem? (i := 572) (by decide +kernel), List.mem_of_getElem? (i := 573) (by decide +kernel)⟩
theorem ml_8_92_124_0 : MthOK (8, 92, 124, 0) := ⟨List.mem_of_getElem? (i := 1203) (by decide +kernel), List.mem_of_getElem? (i := 1204) (by decide +kernel), List.mem_of_getElem? (i := 1205) (by decide +kernel)⟩
theorem ml_8_93_20_0 : MthOK (8, 93, 20, 0) := ⟨List.mem_of_getElem? (i := 615) (by decide +kernel), List.mem_of_getElem? (i := 616) (by decide +kernel), List.mem_of_getElem? (i := 617) (by decide +kernel)⟩
theorem ml_8_96_125_0 : MthOK (8, 96, 125, 0) := ⟨List.mem_of_getElem? (i := 1230) (by decide +kernel), List.mem_of_getElem? (i := 1231) (by decide +kernel), List.mem_of_getElem? (i := 1232) (by decide +kernel)⟩
theorem ml_8_97_21_0 : MthOK (8, 97, 21, 0) := ⟨List.mem_of_getElem? (i := 619) (by decide +kernel), List.mem_of_getElem? (i := 620) (by decide +kernel), List.mem_of_getElem? (i := 621) (by decide +kernel)⟩
theorem ml_8_100_126_0 : MthOK (8, 100, 126, 0) := ⟨List.mem_of_getElem? (i := 1234) (by decide +kernel), List.mem_of_getElem? (i := 1235) (by decide +kernel), List.mem_of_getElem? (i := 1236) (by decide +kernel)⟩
theorem ml_8_101_22_0 : MthOK (8, 101, 22, 0) := ⟨List.mem_of_getElem? (i := 625) (by decide +kernel), List.mem_of_getElem? (i := 626) (by decide +kernel), List.mem_of_getElem? (i := 627) (by decide +kernel)⟩
theorem ml_8_104_127_0 : MthOK (8, 104, 127, 0) := ⟨List.mem_of_getElem? (i := 1238) (by decide +kernel), List.mem_of_getElem? (i := 1239) (by decide +kernel), List.mem_of_getElem? (i := 1240) (by decide +kernel)⟩
theorem ml_8_105_23_0 : MthOK (8, 105, 23, 0) := ⟨List.mem_of_getElem? (i := 633) (by decide +kernel), List.mem_of_getElem? (i := 634) (by decide +kernel), List.mem_of_getElem? (i := 635) (by decide +kernel)⟩
theorem ml_8_108_128_0 : MthOK (8, 108, 128, 0) := ⟨List.mem_of_getElem? (i := 1243) (by decide +kernel), List.mem_of_getElem? (i := 1244) (by decide +kernel), List.mem_of_getElem? (i := 1245) (by decide +kernel)⟩
theorem ml_8_109_24_0 : MthOK (8, 109, 24, 0) := ⟨List.mem_of_getElem? (i := 637) (by decide +kernel), List.mem_of_getElem? (i := 638) (by decide +kernel), List.mem_of_getElem? (i := 639) (by decide +kernel)⟩
theorem ml_8_112_129_0 : MthOK (8, 112, 129, 0) := ⟨List.mem_of_getElem? (i := 1247) (by decide +kernel), List.mem_of_getElem? (i := 1248) (by decide +kernel), List.mem_of_getElem? (i := 1249) (by decide +kernel)⟩
theorem ml_8_113_25_0 : MthOK (8, 113, 25, 0) := ⟨List.mem_of_getElem? (i := 644) (by decide +kernel), List.mem_of_getElem? (i := 645) (by decide +kernel), List.mem_of_getElem? (i := 646) (by decide +kernel)⟩
theorem ml_8_116_130_0 : MthOK (8, 116, 130, 0) := ⟨List.mem_of_getElem? (i := 1251) (by decide +kernel), List.mem_of_getElem? (i := 1252) (by decide +kernel), List.mem_of_getElem? (i := 1253) (by decide +kernel)⟩
theorem ml_8_117_26_0 : MthOK (8, 117, 26, 0) := ⟨List.mem_of_getElem? (i := 648) (by decide +kernel), List.mem_of_getElem? (i := 649) (by decide +kernel), List.mem_of_getElem? (i := 650) (by decide +kernel)⟩
theorem ml_8_121_133_0 : MthOK (8, 121, 133, 0) := ⟨List.mem_of_getElem? (i := 1255) (by decide +kernel), List.mem_of_getElem? (i := 1256) (by decide +kernel), List.mem_of_getElem? (i := 1257) (by decide +kernel)⟩
theorem ml_8_122_27_0 : MthOK (8, 122, 27, 0) := ⟨List.mem_of_getElem? (i := 667) (by decide +kernel), List.mem_of_getElem? (i := 668) (by decide +kernel), List.mem_of_getElem? (i := 669) (by decide +kernel)⟩
theorem ml_8_125_138_0 : MthOK (8, 125, 138, 0) := ⟨List.mem_of_getElem? (i := 1267) (by decide +kernel), List.mem_of_getElem? (i := 1268) (by decide +kernel), List.mem_of_getElem? (i := 1269) (by decide +kernel)⟩
theorem ml_8_126_28_0 : MthOK (8, 126, 28, 0) := ⟨List.mem_of_getElem? (i := 698) (by decide +kernel), List.mem_of_getElem? (i := 699) (by decide +kernel), List.mem_of_getElem? (i := 700) (by decide +kernel)⟩
theorem ml_8_129_139_0 : MthOK (8, 129, 139, 0) := ⟨List.mem_of_getElem? (i := 1288) (by decide +kernel), List.mem_of_getElem? (i := 1289) (by decide +kernel), List.mem_of_getElem? (i := 1290) (by decide +kernel)⟩
theorem ml_8_130_29_0 : MthOK (8, 130, 29, 0) := ⟨List.mem_of_getElem? (i := 702) (by decide +kernel), List.mem_of_getElem? (i := 703) (by decide +kernel), List.mem_of_getElem? (i := 704) (by decide +kernel)⟩
theorem ml_8_133_140_0 : MthOK (8, 133, 140, 0) := ⟨List.mem_of_getElem? (i := 1292) (by decide +kernel), List.mem_of_getElem? (i := 1293) (by decide +kernel), List.mem_of_getElem? (i := 1294) (by decide +kernel)⟩
theorem ml_8_134_30_0 : MthOK (8, 134, 30, 0) := ⟨List.mem_of_getElem? (i := 709) (by decide +kernel), List.mem_of_getElem? (i := 710) (by decide +kernel), List.mem_of_getElem? (i := 711) (by decide +kernel)⟩
theorem ml_8_137_142_0 : MthOK (8, 137, 142, 0) := ⟨List.mem_of_getElem? (i := 1296) (by decide +kernel), List.mem_of_getElem? (i := 1297) (by decide +kernel), List.mem_of_getElem? (i := 1298) (by decide +kernel)⟩
set_option maxRecDepth 100000 in
theorem mthL7_ok : ∀ q ∈ mthL7, MthOK q := by
  unfold mthL7
  refine List.forall_mem_cons.mpr ⟨ml_8_77_16_0, ?_⟩
  refine List.forall_mem_cons.mpr ⟨ml_8_80_115_0, ?_⟩
  refine List.forall_mem_cons.mpr ⟨ml_8_81_17_0, ?_⟩
  refine List.forall_mem_cons.mpr ⟨ml_8_84_116_0, ?_⟩
  refine List.forall_mem_cons.mpr ⟨ml_8_85_18_0, ?_⟩
  refine List.forall_mem_cons.mpr ⟨ml_8_88_118_0, ?_⟩
  refine List.forall_mem_cons.mpr ⟨ml_8_89_19_0, ?_⟩
  refine List.forall_mem_cons.mpr ⟨ml_8_92_124_0, ?_⟩
  refine List.forall_mem_cons.mpr ⟨ml_8_93_20_0, ?_⟩
  refine List.forall_mem_cons.mpr ⟨ml_8_96_125_0, ?_⟩
  refine List.forall_mem_cons.mpr ⟨ml_8_97_21_0, ?_⟩
  refine List.forall_mem_cons.mpr ⟨ml_8_100_126_0, ?_⟩
  refine List.forall_mem_cons.mpr ⟨ml_8_101_22_0, ?_⟩
  refine List.forall_mem_cons.mpr ⟨ml_8_104_127_0, ?_⟩
  refine List.forall_mem_cons.mpr ⟨ml_8_105_23_0, ?_⟩
  refine List.forall_mem_cons.mpr ⟨ml_8_108_128_0, ?_⟩
  refine List.forall_mem_cons.mpr ⟨ml_8_109_24_0, ?_⟩
  refine List.forall_mem_cons.mpr ⟨ml_8_112_129_0, ?_⟩
  refine List.forall_mem_cons.mpr ⟨ml_8_113_25_0, ?_⟩
  refine List.forall_mem_cons.mpr ⟨ml_8_116_130_0, ?_⟩
  refine List.forall_mem_cons.mpr ⟨ml_8_117_26_0, ?_⟩
  refine List.forall_mem_cons.mpr ⟨ml_8_121_133_0, ?_⟩
  refine List.forall_mem_cons.mpr ⟨ml_8_122_27_0, ?_⟩
  refine List.forall_mem_cons.mpr ⟨ml_8_125_138_0, ?_⟩
  refine List.forall_mem_cons.mpr ⟨ml_8_126_28_0, ?_⟩
  refine List.forall_mem_cons.mpr ⟨ml_8_129_139_0, ?_⟩
  refine List.forall_mem_cons.mpr ⟨ml_8_130_29_0, ?_⟩
  refine List.forall_mem_cons.mpr ⟨ml_8_133_140_0, ?_⟩
  refine List.forall_mem_cons.mpr ⟨ml_8_134_30_0, ?_⟩
  refine List.forall_mem_cons.mpr ⟨ml_8_137_142_0, ?_⟩
  exact fun _ h => absurd h List.not_mem_nil
def mthL8 : List (Nat × Nat × Nat × Nat) := [(8, 138, 31, 0), (8, 141, 143, 0), (8, 142, 32, 0), (8, 145, 144, 0), (8, 146, 33, 0), (8, 149, 146, 0), (8, 150, 34, 0), (8, 154, 149, 0), (8, 155, 35, 0), (8, 158, 151, 0), (8, 159, 36, 0), (8, 162, 152, 0), (8, 163, 37, 0), (8, 166, 153, 0), (8, 167, 38, 0), (8, 170, 154, 0), (8, 171, 39, 0), (8, 174, 157, 0), (8, 175, 40, 0), (8, 178, 158, 0), (8, 179, 41, 0), (8, 182, 159, 0), (8, 183, 42, 0), (8, 186, 160, 0), (8, 187, 43, 0), (8, 190, 161, 0), (8, 191, 44, 0), (8, 195, 163, 0), (8, 196, 45, 0), (8, 199, 164, 0)]
theorem ml_8_138_31_0 : MthOK (8, 138, 31, 0) := ⟨List.mem_of_getElem? (i := 726) (by decide +kernel), List.mem_of_getElem? (i := 727) (by decide +kernel), List.mem_of_getElem? (i := 728) (by decide +kernel)⟩
theorem ml_8_141_143_0 : MthOK (8, 141, 143, 0) := ⟨List.mem_of_getElem? (i := 1304) (by decide +kernel), List.mem_of_getElem? (i := 1305) (by decide +kernel), List.mem_of_getElem? (i := 1306) (by decide +kernel)⟩
theorem ml_8_142_32_0 : MthOK (8, 142, 32, 0) := ⟨List.mem_of_getElem? (i := 735) (by decide +kernel), List.mem_of_getElem? (i := 736) (by decide +kernel), List.mem_of_getElem? (i := 737) (by decide +kernel)⟩
theorem ml_8_145_144_0 : MthOK (8, 145, 144, 0) := ⟨List.mem_of_getElem? (i := 1308) (by decide +kernel), List.mem_of_getElem? (i := 1309) (by decide +kernel), List.mem_of_getElem? (i := 1310) (by decide +kernel)⟩
theorem ml_8_146_33_0 : MthOK (8, 146, 33, 0) := ⟨List.mem_of_getElem? (i := 751) (by decide +kernel), List.mem_of_getElem? (i := 752) (by decide +kernel), List.mem_of_getElem? (i := 753) (by decide +kernel)⟩
theorem ml_8_149_146_0 : MthOK (8, 149, 146, 0) := ⟨List.mem_of_getElem? (i := 1312) (by decide +kernel), List.mem_of_getElem? (i := 1313) (by decide +kernel), List.mem_of_getElem? (i := 1314) (by decide +kernel)⟩
theorem ml_8_150_34_0 : MthOK (8, 150, 34, 0) := ⟨List.mem_of_getElem? (i := 771) (by decide +kernel), List.mem_of_getElem? (i := 772) (by decide +kernel), List.mem_of_getElem? (i := 773) (by decide +kernel)⟩
theorem ml_8_154_149_0 : MthOK (8, 154, 149, 0) := ⟨List.mem_of_getElem? (i := 1320) (by decide +kernel), List.mem_of_getElem? (i := 1321) (by decide +kernel), List.mem_of_getElem? (i := 1322) (by decide +kernel)⟩
theorem ml_8_155_35_0 : MthOK (8, 155, 35, 0) := ⟨List.mem_of_getElem? (i := 781) (by decide +kernel), List.mem_of_getElem? (i := 782) (by decide +kernel), List.mem_of_getElem? (i := 783) (by decide +kernel)⟩
theorem ml_8_158_151_0 : MthOK (8, 158, 151, 0) := ⟨List.mem_of_getElem? (i := 1332) (by decide +kernel), List.mem_of_getElem? (i := 1333) (by decide +kernel), List.mem_of_getElem? (i := 1334) (by decide +kernel)⟩
theorem ml_8_159_36_0 : MthOK (8, 159, 36, 0) := ⟨List.mem_of_getElem? (i := 790) (by decide +kernel), List.mem_of_getElem? (i := 791) (by decide +kernel), List.mem_of_getElem? (i := 792) (by decide +kernel)⟩
theorem ml_8_162_152_0 : MthOK (8, 162, 152, 0) := ⟨List.mem_of_getElem? (i := 1340) (by decide +kernel), List.mem_of_getElem? (i := 1341) (by decide +kernel), List.mem_of_getElem? (i := 1342) (by decide +kernel)⟩
theorem ml_8_163_37_0 : MthOK (8, 163, 37, 0) := ⟨List.mem_of_getElem? (i := 794) (by decide +kernel), List.mem_of_getElem? (i := 795) (by decide +kernel), List.mem_of_getElem? (i := 796) (by decide +kernel)⟩
theorem ml_8_166_153_0 : MthOK (8, 166, 153, 0) := ⟨List.mem_of_getElem? (i := 1344) (by decide +kernel), List.mem_of_getElem? (i := 1345) (by decide +kernel), List.mem_of_getElem? (i := 1346) (by decide +kernel)⟩
theorem ml_8_167_38_0 : MthOK (8, 167, 38, 0) := ⟨List.mem_of_getElem? (i := 802) (by decide +kernel), List.mem_of_getElem? (i := 803) (by decide +kernel), List.mem_of_getElem? (i := 804) (by decide +kernel)⟩
theorem ml_8_170_154_0 : MthOK (8, 170, 154, 0) := ⟨List.mem_of_getElem? (i := 1348) (by decide +kernel), List.mem_of_getElem? (i := 1349) (by decide +kernel), List.mem_of_getElem? (i := 1350) (by decide +kernel)⟩
theorem ml_8_171_39_0 : MthOK (8, 171, 39, 0) := ⟨List.mem_of_getElem? (i := 822) (by decide +kernel), List.mem_of_getElem? (i := 823) (by decide +kernel), List.mem_of_getElem? (i := 824) (by decide +kernel)⟩
theorem ml_8_174_157_0 : MthOK (8, 174, 157, 0) := ⟨List.mem_of_getElem? (i := 1352) (by decide +kernel), List.mem_of_getElem? (i := 1353) (by decide +kernel), List.mem_of_getElem? (i := 1354) (by decide +kernel)⟩
theorem ml_8_175_40_0 : MthOK (8, 175, 40, 0) := ⟨List.mem_of_getElem? (i := 833) (by decide +kernel), List.mem_of_getElem? (i := 834) (by decide +kernel), List.mem_of_getElem? (i := 835) (by decide +kernel)⟩
theorem ml_8_178_158_0 : MthOK (8, 178, 158, 0) := ⟨List.mem_of_getElem? (i := 1364) (by decide +kernel), List.mem_of_getElem? (i := 1365) (by decide +kernel), List.mem_of_getElem? (i := 1366) (by decide +kernel)⟩
theorem ml_8_179_41_0 : MthOK (8, 179, 41, 0) := ⟨List.mem_of_getElem? (i := 837) (by decide +kernel), List.mem_of_getElem? (i := 838) (by decide +kernel), List.mem_of_getElem? (i := 839) (by decide +kernel)⟩
theorem ml_8_182_159_0 : MthOK (8, 182, 159, 0) := ⟨List.mem_of_getElem? (i := 1368) (by decide +kernel), List.mem_of_getElem? (i := 1369) (by decide +kernel), List.mem_of_getElem? (i := 1370) (by decide +kernel)⟩
theorem ml_8_183_42_0 : MthOK (8, 183, 42, 0) := ⟨List.mem_of_getElem? (i := 841) (by decide +kernel), List.mem_of_getElem? (i := 842) (by decide +kernel), List.mem_of_getElem? (i := 843) (by decide +kernel)⟩
theorem ml_8_186_160_0 : MthOK (8, 186, 160, 0) := ⟨List.mem_of_getElem? (i := 1372) (by decide +kernel), List.mem_of_getElem? (i := 1373) (by decide +kernel), List.mem_of_getElem? (i := 1374) (by decide +kernel)⟩
theorem ml_8_187_43_0 : MthOK (8, 187, 43, 0) := ⟨List.mem_of_getElem? (i := 857) (by decide +kernel), List.mem_of_getElem? (i := 858) (by decide +kernel), List.mem_of_getElem? (i := 859) (by decide +kernel)⟩
theorem ml_8_190_161_0 : MthOK (8, 190, 161, 0) := ⟨List.mem_of_getElem? (i := 1379) (by decide +kernel), List.mem_of_getElem? (i := 1380) (by decide +kernel), List.mem_of_getElem? (i := 1381) (by decide +kernel)⟩
theorem ml_8_191_44_0 : MthOK (8, 191, 44, 0) := ⟨List.mem_of_getElem? (i := 861) (by decide +kernel), List.mem_of_getElem? (i := 862) (by decide +kernel), List.mem_of_getElem? (i := 863) (by decide +kernel)⟩
theorem ml_8_195_163_0 : MthOK (8, 195, 163, 0) := ⟨List.mem_of_getElem? (i := 1383) (by decide +kernel), List.mem_of_getElem? (i := 1384) (by decide +kernel), List.mem_of_getElem? (i := 1385) (by decide +kernel)⟩
theorem ml_8_196_45_0 : MthOK (8, 196, 45, 0) := ⟨List.mem_of_getElem? (i := 868) (by decide +kernel), List.mem_of_getElem? (i := 869) (by decide +kernel), List.mem_of_getElem? (i := 870) (by decide +kernel)⟩
theorem ml_8_199_164_0 : MthOK (8, 199, 164, 0) := ⟨List.mem_of_getElem? (i := 1390) (by decide +kernel), List.mem_of_getElem? (i := 1391) (by decide +kernel), List.mem_of_getElem? (i := 1392) (by decide +kernel)⟩
set_option maxRecDepth 100000 in
theorem mthL8_ok : ∀ q ∈ mthL8, MthOK q := by
  unfold mthL8
  refine List.forall_mem_cons.mpr ⟨ml_8_138_31_0, ?_⟩
  refine List.forall_mem_cons.mpr ⟨ml_8_141_143_0, ?_⟩
  refine List.forall_mem_cons.mpr ⟨ml_8_142_32_0, ?_⟩
  refine List.forall_mem_cons.mpr ⟨ml_8_145_144_0, ?_⟩
  refine List.forall_mem_cons.mpr ⟨ml_8_146_33_0, ?_⟩
  refine List.forall_mem_cons.mpr ⟨ml_8_149_146_0, ?_⟩
  refine List.forall_mem_cons.mpr ⟨ml_8_150_34_0, ?_⟩
  refine List.forall_mem_cons.mpr ⟨ml_8_154_149_0, ?_⟩
  refine List.forall_mem_cons.mpr ⟨ml_8_155_35_0, ?_⟩
  refine List.forall_mem_cons.mpr ⟨ml_8_158_151_0, ?_⟩
  refine List.forall_mem_cons.mpr ⟨ml_8_159_36_0, ?_⟩
  refine List.forall_mem_cons.mpr ⟨ml_8_162_152_0, ?_⟩
  refine List.forall_mem_cons.mpr ⟨ml_8_163_37_0, ?_⟩
  refine List.forall_mem_cons.mpr ⟨ml_8_166_153_0, ?_⟩
  refine List.forall_mem_cons.mpr ⟨ml_8_167_38_0, ?_⟩
  refine List.forall_mem_cons.mpr ⟨ml_8_170_154_0, ?_⟩
  refine List.forall_mem_cons.mpr ⟨ml_8_171_39_0, ?_⟩
  refine List.forall_mem_cons.mpr ⟨ml_8_174_157_0, ?_⟩
  refine List.forall_mem_cons.mpr ⟨ml_8_175_40_0, ?_⟩
  refine List.forall_mem_cons.mpr ⟨ml_8_178_158_0, ?_⟩
  refine List.forall_mem_cons.mpr ⟨ml_8_179_41_0, ?_⟩
  refine List.forall_mem_cons.mpr ⟨ml_8_182_159_0, ?_⟩
  refine List.forall_mem_cons.mpr ⟨ml_8_183_42_0, ?_⟩
  refine List.forall_mem_cons.mpr ⟨ml_8_186_160_0, ?_⟩
  refine List.forall_mem_cons.mpr ⟨ml_8_187_43_0, ?_⟩
  refine List.forall_mem_cons.mpr ⟨ml_8_190_161_0, ?_⟩
  refine List.forall_mem_cons.mpr ⟨ml_8_191_44_0, ?_⟩
  refine List.forall_mem_cons.mpr ⟨ml_8_195_163_0, ?_⟩
  refine List.forall_mem_cons.mpr ⟨ml_8_196_45_0, ?_⟩
  refine List.forall_mem_cons.mpr ⟨ml_8_199_164_0, ?_⟩
  exact fun _ h => absurd h List.not_mem_nil
def mthL9 : List (Nat × Nat × Nat × Nat) := [(8, 200, 46, 0), (8, 203, 166, 0), (8, 204, 47, 0), (8, 207, 167, 0), (8, 208, 48, 0), (8, 211, 168, 0), (8, 212, 49, 0), (8, 215, 171, 0)]
theorem ml_8_200_46_0 : MthOK (8, 200, 46, 0) := ⟨List.mem_of_getElem? (i := 872) (by decide +kernel), List.mem_of_getElem? (i := 873) (by decide +kernel), List.mem_of_getElem? (i := 874) (by decide +kernel)⟩
theorem ml_8_203_166_0 : MthOK (8, 203, 166, 0) := ⟨List.mem_of_getElem? (i := 1394) (by decide +kernel), List.mem_of_getElem? (i := 1395) (by decide +kernel), List.mem_of_getElem? (i := 1396) (by decide +kernel)⟩
theorem ml_8_204_47_0 : MthOK (8, 204, 47, 0) := ⟨List.mem_of_getElem? (i := 889) (by decide +kernel), List.mem_of_getElem? (i := 890) (by decide +kernel), List.mem_of_getElem? (i := 891) (by decide +kernel)⟩
theorem ml_8_207_167_0 : MthOK (8, 207, 167, 0) := ⟨List.mem_of_getElem? (i := 1402) (by decide +kernel), List.mem_of_getElem? (i := 1403) (by decide +kernel), List.mem_of_getElem? (i := 1404) (by decide +kernel)⟩
theorem ml_8_208_48_0 : MthOK (8, 208, 48, 0) := ⟨List.mem_of_getElem? (i := 893) (by decide +kernel), List.mem_of_getElem? (i := 894) (by decide +kernel), List.mem_of_getElem? (i := 895) (by decide +kernel)⟩
theorem ml_8_211_168_0 : MthOK (8, 211, 168, 0) := ⟨List.mem_of_getElem? (i := 1406) (by decide +kernel), List.mem_of_getElem? (i := 1407) (by decide +kernel), List.mem_of_getElem? (i := 1408) (by decide +kernel)⟩
theorem ml_8_212_49_0 : MthOK (8, 212, 49, 0) := ⟨List.mem_of_getElem? (i := 897) (by decide +kernel), List.mem_of_getElem? (i := 898) (by decide +kernel), List.mem_of_getElem? (i := 899) (by decide +kernel)⟩
theorem ml_8_215_171_0 : MthOK (8, 215, 171, 0) := ⟨List.mem_of_getElem? (i := 1410) (by decide +kernel), List.mem_of_getElem? (i := 1411) (by decide +kernel), List.mem_of_getElem? (i := 1412) (by decide +kernel)⟩
set_option maxRecDepth 100000 in
theorem mthL9_ok : ∀ q ∈ mthL9, MthOK q := by
  unfold mthL9
  refine List.forall_mem_cons.mpr ⟨ml_8_200_46_0, ?_⟩
  refine List.forall_mem_cons.mpr ⟨ml_8_203_166_0, ?_⟩
  refine List.forall_mem_cons.mpr ⟨ml_8_204_47_0, ?_⟩
  refine List.forall_mem_cons.mpr ⟨ml_8_207_167_0, ?_⟩
  refine List.forall_mem_cons.mpr ⟨ml_8_208_48_0, ?_⟩
  refine List.forall_mem_cons.mpr ⟨ml_8_211_168_0, ?_⟩
  refine List.forall_mem_cons.mpr ⟨ml_8_212_49_0, ?_⟩
  refine List.forall_mem_cons.mpr ⟨ml_8_215_171_0, ?_⟩
  exact fun _ h => absurd h List.not_mem_nil
def mthL : List (Nat × Nat × Nat × Nat) := mthL0 ++ (mthL1 ++ (mthL2 ++ (mthL3 ++ (mthL4 ++ (mthL5 ++ (mthL6 ++ (mthL7 ++ (mthL8 ++ (mthL9)))))))))
theorem mthL_ok : ∀ q ∈ mthL, MthOK q := by
  unfold mthL
  exact List.forall_mem_append.mpr ⟨mthL0_ok, List.forall_mem_append.mpr ⟨mthL1_ok, List.forall_mem_append.mpr ⟨mthL2_ok, List.forall_mem_append.mpr ⟨mthL3_ok, List.forall_mem_append.mpr ⟨mthL4_ok, List.forall_mem_append.mpr ⟨mthL5_ok, List.forall_mem_append.mpr ⟨mthL6_ok, List.forall_mem_append.mpr ⟨mthL7_ok, List.forall_mem_append.mpr ⟨mthL8_ok, mthL9_ok⟩⟩⟩⟩⟩⟩⟩⟩⟩
def cpyL : List (Nat × Nat) := [(0, 58), (1, 28), (6, 107)]
theorem cpyL_ok : ∀ q ∈ cpyL, Cond.methodLink (ownN q.1) q.2 arraycopyName ∈ lw_tbl := by
  unfold cpyL
  refine List.forall_mem_cons.mpr ⟨List.mem_of_getElem? (i := 461) (by decide +kernel), ?_⟩
  refine List.forall_mem_cons.mpr ⟨List.mem_of_getElem? (i := 466) (by decide +kernel), ?_⟩
  refine List.forall_mem_cons.mpr ⟨List.mem_of_getElem? (i := 362) (by decide +kernel), ?_⟩
  exact fun _ h => absurd h List.not_mem_nil
theorem cpy_w : Cond.native arraycopyName ∈ lw_tbl ∧ Cond.static arraycopyName ∈ lw_tbl ∧ Cond.initialized "java/lang/System" ∈ lw_tbl := ⟨List.mem_of_getElem? (i := 364) (by decide +kernel), List.mem_of_getElem? (i := 363) (by decide +kernel), List.mem_of_getElem? (i := 79) (by decide +kernel)⟩
def mmxN (q : Nat) : MethodName := match q with
  | 0 => Lib.Math.max.name
  | _ => Lib.Math.min.name
def mmxL : List (Nat × Nat × Nat) := [(4, 23, 1), (5, 92, 1), (6, 240, 0)]
theorem mmxL_ok : ∀ q ∈ mmxL, Cond.methodLink (ownN q.1) q.2.1 (mmxN q.2.2) ∈ lw_tbl := by
  unfold mmxL
  refine List.forall_mem_cons.mpr ⟨List.mem_of_getElem? (i := 326) (by decide +kernel), ?_⟩
  refine List.forall_mem_cons.mpr ⟨List.mem_of_getElem? (i := 693) (by decide +kernel), ?_⟩
  refine List.forall_mem_cons.mpr ⟨List.mem_of_getElem? (i := 706) (by decide +kernel), ?_⟩
  exact fun _ h => absurd h List.not_mem_nil
theorem mmx_w : Cond.static Lib.Math.max.name ∈ lw_tbl ∧ Cond.code Lib.Math.max.name Lib.Math.max.code 2 (some .int) ∈ lw_tbl ∧ Cond.static Lib.Math.min.name ∈ lw_tbl ∧ Cond.code Lib.Math.min.name Lib.Math.min.code 2 (some .int) ∈ lw_tbl ∧ Cond.initialized "java/lang/Math" ∈ lw_tbl := ⟨List.mem_of_getElem? (i := 707) (by decide +kernel), List.mem_of_getElem? (i := 708) (by decide +kernel), List.mem_of_getElem? (i := 327) (by decide +kernel), List.mem_of_getElem? (i := 328) (by decide +kernel), List.mem_of_getElem? (i := 78) (by decide +kernel)⟩
