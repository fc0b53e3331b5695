/-- a private method of a class that the tables say can be made, by its rows of tables_1 -/
def lw_okq (q : MethodName × Nat) : Prop := (q.1.cls ≠ "java/lang/invoke/MethodHandle" ∧ q.1.cls ≠ "java/lang/invoke/VarHandle") ∧ Cond.instantiable q.1.cls q.2 ∈ tables_1 ∧ Cond.privateMethod q.1 ∈ tables_1 ∧ Cond.instanceMethod q.1 ∈ tables_1
theorem lw_p0 : lw_okq (⟨"java/lang/Throwable", "fillInStackTrace", "(I)Ljava/lang/Throwable;"⟩, 6) := ⟨⟨by decide +kernel, by decide +kernel⟩, List.mem_of_getElem? (i := 364) (by decide +kernel), List.mem_of_getElem? (i := 362) (by decide +kernel), List.mem_of_getElem? (i := 363) (by decide +kernel)⟩
theorem lw_p1 : lw_okq (⟨"NameMerges", "oneWith", "(II)I"⟩, 8) := ⟨⟨by decide +kernel, by decide +kernel⟩, List.mem_of_getElem? (i := 31) (by decide +kernel), List.mem_of_getElem? (i := 477) (by decide +kernel), List.mem_of_getElem? (i := 478) (by decide +kernel)⟩
theorem lw_p2 : lw_okq (⟨"NameMerges", "likeness", "(LNameMerges$Name;LNameMerges$Name;)I"⟩, 8) := ⟨⟨by decide +kernel, by decide +kernel⟩, List.mem_of_getElem? (i := 31) (by decide +kernel), List.mem_of_getElem? (i := 509) (by decide +kernel), List.mem_of_getElem? (i := 510) (by decide +kernel)⟩
theorem lw_p3 : lw_okq (⟨"NameMerges", "mostPoints", "(LNameMerges$Name;LNameMerges$Name;)I"⟩, 8) := ⟨⟨by decide +kernel, by decide +kernel⟩, List.mem_of_getElem? (i := 31) (by decide +kernel), List.mem_of_getElem? (i := 513) (by decide +kernel), List.mem_of_getElem? (i := 514) (by decide +kernel)⟩
theorem lw_p4 : lw_okq (⟨"NameMerges", "points", "(Ljava/lang/String;Ljava/lang/String;)I"⟩, 8) := ⟨⟨by decide +kernel, by decide +kernel⟩, List.mem_of_getElem? (i := 31) (by decide +kernel), List.mem_of_getElem? (i := 518) (by decide +kernel), List.mem_of_getElem? (i := 519) (by decide +kernel)⟩
theorem lw_p5 : lw_okq (⟨"NameMerges", "longestShared", "(Ljava/lang/String;Ljava/lang/String;)I"⟩, 8) := ⟨⟨by decide +kernel, by decide +kernel⟩, List.mem_of_getElem? (i := 31) (by decide +kernel), List.mem_of_getElem? (i := 523) (by decide +kernel), List.mem_of_getElem? (i := 524) (by decide +kernel)⟩
theorem lw_p6 : lw_okq (⟨"NameMerges", "keepPair", "(I)V"⟩, 8) := ⟨⟨by decide +kernel, by decide +kernel⟩, List.mem_of_getElem? (i := 31) (by decide +kernel), List.mem_of_getElem? (i := 556) (by decide +kernel), List.mem_of_getElem? (i := 557) (by decide +kernel)⟩
theorem lw_p7 : lw_okq (⟨"NameMerges", "isLost", "(LNameMerges$Name;LNameMerges$Name;I)Z"⟩, 8) := ⟨⟨by decide +kernel, by decide +kernel⟩, List.mem_of_getElem? (i := 31) (by decide +kernel), List.mem_of_getElem? (i := 564) (by decide +kernel), List.mem_of_getElem? (i := 565) (by decide +kernel)⟩
theorem lw_p8 : lw_okq (⟨"java/util/ArrayList", "add", "(Ljava/lang/Object;[Ljava/lang/Object;I)V"⟩, 3) := ⟨⟨by decide +kernel, by decide +kernel⟩, List.mem_of_getElem? (i := 72) (by decide +kernel), List.mem_of_getElem? (i := 657) (by decide +kernel), List.mem_of_getElem? (i := 658) (by decide +kernel)⟩
theorem lw_p9 : lw_okq (⟨"java/util/ArrayList", "grow", "()[Ljava/lang/Object;"⟩, 3) := ⟨⟨by decide +kernel, by decide +kernel⟩, List.mem_of_getElem? (i := 72) (by decide +kernel), List.mem_of_getElem? (i := 661) (by decide +kernel), List.mem_of_getElem? (i := 662) (by decide +kernel)⟩
theorem lw_p10 : lw_okq (⟨"java/util/ArrayList", "grow", "(I)[Ljava/lang/Object;"⟩, 3) := ⟨⟨by decide +kernel, by decide +kernel⟩, List.mem_of_getElem? (i := 72) (by decide +kernel), List.mem_of_getElem? (i := 665) (by decide +kernel), List.mem_of_getElem? (i := 666) (by decide +kernel)⟩
theorem lw_p11 : lw_okq (⟨"NameMerges", "checkName", "(I)V"⟩, 8) := ⟨⟨by decide +kernel, by decide +kernel⟩, List.mem_of_getElem? (i := 31) (by decide +kernel), List.mem_of_getElem? (i := 707) (by decide +kernel), List.mem_of_getElem? (i := 708) (by decide +kernel)⟩
theorem lw_p12 : lw_okq (⟨"NameMerges", "areOneFrom", "(III)Z"⟩, 8) := ⟨⟨by decide +kernel, by decide +kernel⟩, List.mem_of_getElem? (i := 31) (by decide +kernel), List.mem_of_getElem? (i := 818) (by decide +kernel), List.mem_of_getElem? (i := 819) (by decide +kernel)⟩
theorem lw_p13 : lw_okq (⟨"NameMerges", "coverBelow", "(II)V"⟩, 8) := ⟨⟨by decide +kernel, by decide +kernel⟩, List.mem_of_getElem? (i := 31) (by decide +kernel), List.mem_of_getElem? (i := 870) (by decide +kernel), List.mem_of_getElem? (i := 871) (by decide +kernel)⟩
theorem lw_p14 : lw_okq (⟨"NameMerges", "ownerOf", "(II)I"⟩, 8) := ⟨⟨by decide +kernel, by decide +kernel⟩, List.mem_of_getElem? (i := 31) (by decide +kernel), List.mem_of_getElem? (i := 933) (by decide +kernel), List.mem_of_getElem? (i := 934) (by decide +kernel)⟩
theorem lw_p15 : lw_okq (⟨"NameMerges", "countVariants", "()I"⟩, 8) := ⟨⟨by decide +kernel, by decide +kernel⟩, List.mem_of_getElem? (i := 31) (by decide +kernel), List.mem_of_getElem? (i := 951) (by decide +kernel), List.mem_of_getElem? (i := 952) (by decide +kernel)⟩
def lw_privs_1 : List (MethodName × Nat) := [(⟨"java/lang/Throwable", "fillInStackTrace", "(I)Ljava/lang/Throwable;"⟩, 6), (⟨"NameMerges", "oneWith", "(II)I"⟩, 8), (⟨"NameMerges", "likeness", "(LNameMerges$Name;LNameMerges$Name;)I"⟩, 8), (⟨"NameMerges", "mostPoints", "(LNameMerges$Name;LNameMerges$Name;)I"⟩, 8), (⟨"NameMerges", "points", "(Ljava/lang/String;Ljava/lang/String;)I"⟩, 8), (⟨"NameMerges", "longestShared", "(Ljava/lang/String;Ljava/lang/String;)I"⟩, 8), (⟨"NameMerges", "keepPair", "(I)V"⟩, 8), (⟨"NameMerges", "isLost", "(LNameMerges$Name;LNameMerges$Name;I)Z"⟩, 8), (⟨"java/util/ArrayList", "add", "(Ljava/lang/Object;[Ljava/lang/Object;I)V"⟩, 3), (⟨"java/util/ArrayList", "grow", "()[Ljava/lang/Object;"⟩, 3), (⟨"java/util/ArrayList", "grow", "(I)[Ljava/lang/Object;"⟩, 3), (⟨"NameMerges", "checkName", "(I)V"⟩, 8), (⟨"NameMerges", "areOneFrom", "(III)Z"⟩, 8), (⟨"NameMerges", "coverBelow", "(II)V"⟩, 8), (⟨"NameMerges", "ownerOf", "(II)I"⟩, 8), (⟨"NameMerges", "countVariants", "()I"⟩, 8)]
theorem lw_r1 : ∀ q ∈ lw_privs_1, lw_okq q := List.forall_mem_cons.mpr ⟨lw_p0, List.forall_mem_cons.mpr ⟨lw_p1, List.forall_mem_cons.mpr ⟨lw_p2, List.forall_mem_cons.mpr ⟨lw_p3, List.forall_mem_cons.mpr ⟨lw_p4, List.forall_mem_cons.mpr ⟨lw_p5, List.forall_mem_cons.mpr ⟨lw_p6, List.forall_mem_cons.mpr ⟨lw_p7, List.forall_mem_cons.mpr ⟨lw_p8, List.forall_mem_cons.mpr ⟨lw_p9, List.forall_mem_cons.mpr ⟨lw_p10, List.forall_mem_cons.mpr ⟨lw_p11, List.forall_mem_cons.mpr ⟨lw_p12, List.forall_mem_cons.mpr ⟨lw_p13, List.forall_mem_cons.mpr ⟨lw_p14, List.forall_mem_cons.mpr ⟨lw_p15, fun _ h => absurd h List.not_mem_nil⟩⟩⟩⟩⟩⟩⟩⟩⟩⟩⟩⟩⟩⟩⟩⟩
theorem lw_p16 : lw_okq (⟨"NameMerges", "countDecided", "()I"⟩, 8) := ⟨⟨by decide +kernel, by decide +kernel⟩, List.mem_of_getElem? (i := 31) (by decide +kernel), List.mem_of_getElem? (i := 955) (by decide +kernel), List.mem_of_getElem? (i := 956) (by decide +kernel)⟩
theorem lw_p17 : lw_okq (⟨"NameMerges", "countBroader", "()I"⟩, 8) := ⟨⟨by decide +kernel, by decide +kernel⟩, List.mem_of_getElem? (i := 31) (by decide +kernel), List.mem_of_getElem? (i := 959) (by decide +kernel), List.mem_of_getElem? (i := 960) (by decide +kernel)⟩
theorem lw_p18 : lw_okq (⟨"NameMergesModel", "goes", "(ZZZ)Z"⟩, 28) := ⟨⟨by decide +kernel, by decide +kernel⟩, List.mem_of_getElem? (i := 964) (by decide +kernel), List.mem_of_getElem? (i := 1064) (by decide +kernel), List.mem_of_getElem? (i := 1065) (by decide +kernel)⟩
theorem lw_p19 : lw_okq (⟨"NameMergesModel", "isName", "(I)Z"⟩, 28) := ⟨⟨by decide +kernel, by decide +kernel⟩, List.mem_of_getElem? (i := 964) (by decide +kernel), List.mem_of_getElem? (i := 1080) (by decide +kernel), List.mem_of_getElem? (i := 1081) (by decide +kernel)⟩
theorem lw_p20 : lw_okq (⟨"NameMergesModel", "likeness", "(II)I"⟩, 28) := ⟨⟨by decide +kernel, by decide +kernel⟩, List.mem_of_getElem? (i := 964) (by decide +kernel), List.mem_of_getElem? (i := 1096) (by decide +kernel), List.mem_of_getElem? (i := 1097) (by decide +kernel)⟩
theorem lw_p21 : lw_okq (⟨"NameMergesModel", "common", "(II)I"⟩, 28) := ⟨⟨by decide +kernel, by decide +kernel⟩, List.mem_of_getElem? (i := 964) (by decide +kernel), List.mem_of_getElem? (i := 1100) (by decide +kernel), List.mem_of_getElem? (i := 1101) (by decide +kernel)⟩
theorem lw_p22 : lw_okq (⟨"NameMergesModel", "join", "(I)V"⟩, 28) := ⟨⟨by decide +kernel, by decide +kernel⟩, List.mem_of_getElem? (i := 964) (by decide +kernel), List.mem_of_getElem? (i := 1108) (by decide +kernel), List.mem_of_getElem? (i := 1109) (by decide +kernel)⟩
theorem lw_p23 : lw_okq (⟨"NameMergesModel", "begin", "(II)Z"⟩, 28) := ⟨⟨by decide +kernel, by decide +kernel⟩, List.mem_of_getElem? (i := 964) (by decide +kernel), List.mem_of_getElem? (i := 1120) (by decide +kernel), List.mem_of_getElem? (i := 1121) (by decide +kernel)⟩
theorem lw_p24 : lw_okq (⟨"NameMergesModel", "everOne", "(III)Z"⟩, 28) := ⟨⟨by decide +kernel, by decide +kernel⟩, List.mem_of_getElem? (i := 964) (by decide +kernel), List.mem_of_getElem? (i := 1132) (by decide +kernel), List.mem_of_getElem? (i := 1133) (by decide +kernel)⟩
theorem lw_p25 : lw_okq (⟨"NameMergesModel", "close", "()V"⟩, 28) := ⟨⟨by decide +kernel, by decide +kernel⟩, List.mem_of_getElem? (i := 964) (by decide +kernel), List.mem_of_getElem? (i := 1148) (by decide +kernel), List.mem_of_getElem? (i := 1149) (by decide +kernel)⟩
theorem lw_p26 : lw_okq (⟨"NameMergesModel", "hasPad", "(II)Z"⟩, 28) := ⟨⟨by decide +kernel, by decide +kernel⟩, List.mem_of_getElem? (i := 964) (by decide +kernel), List.mem_of_getElem? (i := 1160) (by decide +kernel), List.mem_of_getElem? (i := 1161) (by decide +kernel)⟩
theorem lw_p27 : lw_okq (⟨"NameMergesModel", "isPad", "(I)Z"⟩, 28) := ⟨⟨by decide +kernel, by decide +kernel⟩, List.mem_of_getElem? (i := 964) (by decide +kernel), List.mem_of_getElem? (i := 1164) (by decide +kernel), List.mem_of_getElem? (i := 1165) (by decide +kernel)⟩
theorem lw_p28 : lw_okq (⟨"NameMergesModel", "owner", "(II)I"⟩, 28) := ⟨⟨by decide +kernel, by decide +kernel⟩, List.mem_of_getElem? (i := 964) (by decide +kernel), List.mem_of_getElem? (i := 1180) (by decide +kernel), List.mem_of_getElem? (i := 1181) (by decide +kernel)⟩
def lw_privs_2 : List (MethodName × Nat) := [(⟨"NameMerges", "countDecided", "()I"⟩, 8), (⟨"NameMerges", "countBroader", "()I"⟩, 8), (⟨"NameMergesModel", "goes", "(ZZZ)Z"⟩, 28), (⟨"NameMergesModel", "isName", "(I)Z"⟩, 28), (⟨"NameMergesModel", "likeness", "(II)I"⟩, 28), (⟨"NameMergesModel", "common", "(II)I"⟩, 28), (⟨"NameMergesModel", "join", "(I)V"⟩, 28), (⟨"NameMergesModel", "begin", "(II)Z"⟩, 28), (⟨"NameMergesModel", "everOne", "(III)Z"⟩, 28), (⟨"NameMergesModel", "close", "()V"⟩, 28), (⟨"NameMergesModel", "hasPad", "(II)Z"⟩, 28), (⟨"NameMergesModel", "isPad", "(I)Z"⟩, 28), (⟨"NameMergesModel", "owner", "(II)I"⟩, 28)]
theorem lw_r2 : ∀ q ∈ lw_privs_2, lw_okq q := List.forall_mem_cons.mpr ⟨lw_p16, List.forall_mem_cons.mpr ⟨lw_p17, List.forall_mem_cons.mpr ⟨lw_p18, List.forall_mem_cons.mpr ⟨lw_p19, List.forall_mem_cons.mpr ⟨lw_p20, List.forall_mem_cons.mpr ⟨lw_p21, List.forall_mem_cons.mpr ⟨lw_p22, List.forall_mem_cons.mpr ⟨lw_p23, List.forall_mem_cons.mpr ⟨lw_p24, List.forall_mem_cons.mpr ⟨lw_p25, List.forall_mem_cons.mpr ⟨lw_p26, List.forall_mem_cons.mpr ⟨lw_p27, List.forall_mem_cons.mpr ⟨lw_p28, fun _ h => absurd h List.not_mem_nil⟩⟩⟩⟩⟩⟩⟩⟩⟩⟩⟩⟩⟩
def lw_privs : List (MethodName × Nat) := lw_privs_1 ++ (lw_privs_2)
def lw_tbl : List Cond := k2_sels lw_privs ++ tables_1
theorem lw_privs_ok : ∀ q ∈ lw_privs, lw_okq q := by
  show ∀ q ∈ lw_privs_1 ++ (lw_privs_2), lw_okq q
  exact List.forall_mem_append.mpr ⟨lw_r1, lw_r2⟩
/-! the words that every callee may take over -/
def gw : List Cond := lw_tbl.filter goodWord
theorem gw_mem {w : Cond} {i : Nat} (h : lw_tbl[i]? = some w) (hg : goodWord w = true) : w ∈ gw := List.mem_filter.mpr ⟨List.mem_of_getElem? h, hg⟩
theorem gw_good {w : Cond} (h : w ∈ gw) : (w.onTables && w.keeps) = true ∨ ∃ ty, w = .arrayClass ty := good_of_word (List.mem_filter.mp h).2
theorem gw_sub {ws : List Cond} (h : ∀ w ∈ ws, w ∈ gw) : GoodIn gw ws := fun w hw => ⟨h w hw, gw_good (h w hw)⟩
theorem gw_cons {w : Cond} {ws : List Cond} (h : w ∈ gw) (t : ∀ w ∈ ws, w ∈ gw) : ∀ x ∈ w :: ws, x ∈ gw := fun x hx => (List.mem_cons.mp hx).elim (fun e => e ▸ h) (t x)
theorem gw_V {own C : String} {idx n : Nat} {z : MethodName} {cz : ByteArray} {rz : Option FieldType} (h1 : Cond.methodLink own idx z ∈ gw) (h2 : Cond.instanceMethod z ∈ gw) (h3 : Cond.selects C z z ∈ gw) (h4 : Cond.initialized C ∈ gw) (h5 : Cond.code z cz n rz ∈ gw) : GoodIn gw (wsV own idx C z (Cond.code z cz n rz :: gw)) :=
  gw_sub (gw_cons h1 (gw_cons h2 (gw_cons h3 (gw_cons h4 (gw_cons h5 (fun _ h => h))))))
theorem gw_S {own : String} {idx n : Nat} {z : MethodName} {cz : ByteArray} {rz : Option FieldType} (h1 : Cond.methodLink own idx z ∈ gw) (h2 : Cond.static z ∈ gw) (h4 : Cond.initialized own ∈ gw) (h5 : Cond.code z cz n rz ∈ gw) : GoodIn gw (wsS own idx z (Cond.code z cz n rz :: gw)) :=
  gw_sub (gw_cons h1 (gw_cons h2 (gw_cons h4 (gw_cons h5 (fun _ h => h)))))
theorem gw_I {n : Nat} {z : MethodName} {cz : ByteArray} {rz : Option FieldType} (h5 : Cond.code z cz n rz ∈ gw) : GoodIn gw (Cond.code z cz n rz :: gw) := gw_sub (gw_cons h5 (fun _ h => h))
def RMd : String := "NameMergesModel"
def TMd : u_T := fun k => match k with
  | 0 => ("NameMergesModel", "thrown", "I", false)
  | 1 => ("NameMergesModel", "padded", "I", false)
  | 2 => ("NameMergesModel", "pad", "[I", true)
  | 3 => ("NameMergesModel", "names", "I", false)
  | 4 => ("NameMergesModel", "many", "[I", true)
  | 5 => ("NameMergesModel", "lengths", "[I", true)
  | 6 => ("NameMergesModel", "signs", "[I", true)
  | 7 => ("NameMergesModel", "languages", "[I", true)
  | 8 => ("NameMergesModel", "froms", "[I", true)
  | 9 => ("NameMergesModel", "tos", "[I", true)
  | 10 => ("NameMergesModel", "firstDays", "[I", true)
  | 11 => ("NameMergesModel", "lastDays", "[I", true)
  | 12 => ("NameMergesModel", "decided", "[I", true)
  | 13 => ("NameMergesModel", "broad", "[Z", true)
  | 14 => ("NameMergesModel", "reach", "[Z", true)
  | 15 => ("NameMergesModel", "numbers", "[I", true)
  | 16 => ("NameMergesModel", "merges", "I", false)
  | 17 => ("NameMergesModel", "ones", "[I", true)
  | 18 => ("NameMergesModel", "others", "[I", true)
  | 19 => ("NameMergesModel", "begins", "[I", true)
  | 20 => ("NameMergesModel", "ends", "[I", true)
  | 21 => ("NameMergesModel", "group", "[I", true)
  | 22 => ("NameMergesModel", "pairs", "I", false)
  | 23 => ("NameMergesModel", "firsts", "[I", true)
  | 24 => ("NameMergesModel", "seconds", "[I", true)
  | 25 => ("NameMergesModel", "finds", "I", false)
  | 26 => ("NameMergesModel", "founds", "[I", true)
  | _ => ("NameMergesModel", "rows", "[I", true)
def tMd : Nat → FieldType := fun k => match k with
  | 0 => .int
  | 1 => .int
  | 2 => .array (.int)
  | 3 => .int
  | 4 => .array (.int)
  | 5 => .array (.int)
  | 6 => .array (.int)
  | 7 => .array (.int)
  | 8 => .array (.int)
  | 9 => .array (.int)
  | 10 => .array (.int)
  | 11 => .array (.int)
  | 12 => .array (.int)
  | 13 => .array (.boolean)
  | 14 => .array (.boolean)
  | 15 => .array (.int)
  | 16 => .int
  | 17 => .array (.int)
  | 18 => .array (.int)
  | 19 => .array (.int)
  | 20 => .array (.int)
  | 21 => .array (.int)
  | 22 => .int
  | 23 => .array (.int)
  | 24 => .array (.int)
  | 25 => .int
  | 26 => .array (.int)
  | _ => .array (.int)
theorem nMd : ∀ a, a < 28 → ∀ b, b < 28 → a ≠ b → (TMd a).2.1 ≠ (TMd b).2.1 := by decide +kernel
theorem tMd_ok : ∀ k, k < 28 → parseFieldDescriptor (TMd k).2.2.1 = some (tMd k) := by decide +kernel
theorem iMd : ∀ w ∈ u_ws RMd TMd 28, w ∈ gw := by
  have h : u_ws RMd TMd 28 = [Cond.lays "NameMergesModel" "NameMergesModel" "thrown" "I", Cond.lays "NameMergesModel" "NameMergesModel" "padded" "I", Cond.laysFinal "NameMergesModel" "NameMergesModel" "pad" "[I", Cond.lays "NameMergesModel" "NameMergesModel" "names" "I", Cond.laysFinal "NameMergesModel" "NameMergesModel" "many" "[I", Cond.laysFinal "NameMergesModel" "NameMergesModel" "lengths" "[I", Cond.laysFinal "NameMergesModel" "NameMergesModel" "signs" "[I", Cond.laysFinal "NameMergesModel" "NameMergesModel" "languages" "[I", Cond.laysFinal "NameMergesModel" "NameMergesModel" "froms" "[I", Cond.laysFinal "NameMergesModel" "NameMergesModel" "tos" "[I", Cond.laysFinal "NameMergesModel" "NameMergesModel" "firstDays" "[I", Cond.laysFinal "NameMergesModel" "NameMergesModel" "lastDays" "[I", Cond.laysFinal "NameMergesModel" "NameMergesModel" "decided" "[I", Cond.laysFinal "NameMergesModel" "NameMergesModel" "broad" "[Z", Cond.laysFinal "NameMergesModel" "NameMergesModel" "reach" "[Z", Cond.laysFinal "NameMergesModel" "NameMergesModel" "numbers" "[I", Cond.lays "NameMergesModel" "NameMergesModel" "merges" "I", Cond.laysFinal "NameMergesModel" "NameMergesModel" "ones" "[I", Cond.laysFinal "NameMergesModel" "NameMergesModel" "others" "[I", Cond.laysFinal "NameMergesModel" "NameMergesModel" "begins" "[I", Cond.laysFinal "NameMergesModel" "NameMergesModel" "ends" "[I", Cond.laysFinal "NameMergesModel" "NameMergesModel" "group" "[I", Cond.lays "NameMergesModel" "NameMergesModel" "pairs" "I", Cond.laysFinal "NameMergesModel" "NameMergesModel" "firsts" "[I", Cond.laysFinal "NameMergesModel" "NameMergesModel" "seconds" "[I", Cond.lays "NameMergesModel" "NameMergesModel" "finds" "I", Cond.laysFinal "NameMergesModel" "NameMergesModel" "founds" "[I", Cond.laysFinal "NameMergesModel" "NameMergesModel" "rows" "[I"] := by rfl
  rw [h]
  exact gw_cons (gw_mem (i := 1026) (by decide +kernel) rfl) (gw_cons (gw_mem (i := 1028) (by decide +kernel) rfl) (gw_cons (gw_mem (i := 1030) (by decide +kernel) rfl) (gw_cons (gw_mem (i := 1032) (by decide +kernel) rfl) (gw_cons (gw_mem (i := 1034) (by decide +kernel) rfl) (gw_cons (gw_mem (i := 1036) (by decide +kernel) rfl) (gw_cons (gw_mem (i := 1038) (by decide +kernel) rfl) (gw_cons (gw_mem (i := 1040) (by decide +kernel) rfl) (gw_cons (gw_mem (i := 1042) (by decide +kernel) rfl) (gw_cons (gw_mem (i := 1044) (by decide +kernel) rfl) (gw_cons (gw_mem (i := 1046) (by decide +kernel) rfl) (gw_cons (gw_mem (i := 1048) (by decide +kernel) rfl) (gw_cons (gw_mem (i := 1050) (by decide +kernel) rfl) (gw_cons (gw_mem (i := 1052) (by decide +kernel) rfl) (gw_cons (gw_mem (i := 1054) (by decide +kernel) rfl) (gw_cons (gw_mem (i := 1056) (by decide +kernel) rfl) (gw_cons (gw_mem (i := 1058) (by decide +kernel) rfl) (gw_cons (gw_mem (i := 1060) (by decide +kernel) rfl) (gw_cons (gw_mem (i := 1062) (by decide +kernel) rfl) (gw_cons (gw_mem (i := 1064) (by decide +kernel) rfl) (gw_cons (gw_mem (i := 1066) (by decide +kernel) rfl) (gw_cons (gw_mem (i := 1068) (by decide +kernel) rfl) (gw_cons (gw_mem (i := 1070) (by decide +kernel) rfl) (gw_cons (gw_mem (i := 1072) (by decide +kernel) rfl) (gw_cons (gw_mem (i := 1074) (by decide +kernel) rfl) (gw_cons (gw_mem (i := 1076) (by decide +kernel) rfl) (gw_cons (gw_mem (i := 1078) (by decide +kernel) rfl) (gw_cons (gw_mem (i := 1080) (by decide +kernel) rfl) ((fun _ h => absurd h List.not_mem_nil)))))))))))))))))))))))))))))
def RNm : String := "NameMerges"
def TNm : u_T := fun k => match k with
  | 0 => ("NameMerges", "pad", "Ljava/lang/StringBuilder;", true)
  | 1 => ("NameMerges", "names", "Ljava/util/ArrayList;", true)
  | 2 => ("NameMerges", "merges", "Ljava/util/ArrayList;", true)
  | 3 => ("NameMerges", "decisions", "[I", true)
  | 4 => ("NameMerges", "foundPairs", "[I", true)
  | 5 => ("NameMerges", "foundPairCount", "I", false)
  | 6 => ("NameMerges", "foundNames", "I", false)
  | _ => ("NameMerges", "sharedSoFar", "[I", true)
def tNm : Nat → FieldType := fun k => match k with
  | 0 => .object "java/lang/StringBuilder"
  | 1 => .object "java/util/ArrayList"
  | 2 => .object "java/util/ArrayList"
  | 3 => .array (.int)
  | 4 => .array (.int)
  | 5 => .int
  | 6 => .int
  | _ => .array (.int)
theorem nNm : ∀ a, a < 8 → ∀ b, b < 8 → a ≠ b → (TNm a).2.1 ≠ (TNm b).2.1 := by decide +kernel
theorem tNm_ok : ∀ k, k < 8 → parseFieldDescriptor (TNm k).2.2.1 = some (tNm k) := by decide +kernel
theorem iNm : ∀ w ∈ u_ws RNm TNm 8, w ∈ gw := by
  have h : u_ws RNm TNm 8 = [Cond.laysFinal "NameMerges" "NameMerges" "pad" "Ljava/lang/StringBuilder;", Cond.laysFinal "NameMerges" "NameMerges" "names" "Ljava/util/ArrayList;", Cond.laysFinal "NameMerges" "NameMerges" "merges" "Ljava/util/ArrayList;", Cond.laysFinal "NameMerges" "NameMerges" "decisions" "[I", Cond.laysFinal "NameMerges" "NameMerges" "foundPairs" "[I", Cond.lays "NameMerges" "NameMerges" "foundPairCount" "I", Cond.lays "NameMerges" "NameMerges" "foundNames" "I", Cond.laysFinal "NameMerges" "NameMerges" "sharedSoFar" "[I"] := by rfl
  rw [h]
  exact gw_cons (gw_mem (i := 134) (by decide +kernel) rfl) (gw_cons (gw_mem (i := 136) (by decide +kernel) rfl) (gw_cons (gw_mem (i := 138) (by decide +kernel) rfl) (gw_cons (gw_mem (i := 140) (by decide +kernel) rfl) (gw_cons (gw_mem (i := 142) (by decide +kernel) rfl) (gw_cons (gw_mem (i := 144) (by decide +kernel) rfl) (gw_cons (gw_mem (i := 146) (by decide +kernel) rfl) (gw_cons (gw_mem (i := 148) (by decide +kernel) rfl) ((fun _ h => absurd h List.not_mem_nil)))))))))
def RNa : String := "NameMerges$Name"
def TNa : u_T := fun k => match k with
  | 0 => ("NameMerges$Name", "variants", "Ljava/util/ArrayList;", true)
  | 1 => ("NameMerges$Name", "numbers", "[I", true)
  | 2 => ("NameMerges$Name", "dates", "LNameMerges$Days;", false)
  | 3 => ("NameMerges$Name", "languages", "I", false)
  | 4 => ("NameMerges$Name", "beginnings", "I", false)
  | 5 => ("NameMerges$Name", "narrower", "I", false)
  | _ => ("NameMerges$Name", "covered", "I", false)
def tNa : Nat → FieldType := fun k => match k with
  | 0 => .object "java/util/ArrayList"
  | 1 => .array (.int)
  | 2 => .object "NameMerges$Days"
  | 3 => .int
  | 4 => .int
  | 5 => .int
  | _ => .int
theorem nNa : ∀ a, a < 7 → ∀ b, b < 7 → a ≠ b → (TNa a).2.1 ≠ (TNa b).2.1 := by decide +kernel
theorem tNa_ok : ∀ k, k < 7 → parseFieldDescriptor (TNa k).2.2.1 = some (tNa k) := by decide +kernel
theorem iNa : ∀ w ∈ u_ws RNa TNa 7, w ∈ gw := by
  have h : u_ws RNa TNa 7 = [Cond.laysFinal "NameMerges$Name" "NameMerges$Name" "variants" "Ljava/util/ArrayList;", Cond.laysFinal "NameMerges$Name" "NameMerges$Name" "numbers" "[I", Cond.lays "NameMerges$Name" "NameMerges$Name" "dates" "LNameMerges$Days;", Cond.lays "NameMerges$Name" "NameMerges$Name" "languages" "I", Cond.lays "NameMerges$Name" "NameMerges$Name" "beginnings" "I", Cond.lays "NameMerges$Name" "NameMerges$Name" "narrower" "I", Cond.lays "NameMerges$Name" "NameMerges$Name" "covered" "I"] := by rfl
  rw [h]
  exact gw_cons (gw_mem (i := 666) (by decide +kernel) rfl) (gw_cons (gw_mem (i := 668) (by decide +kernel) rfl) (gw_cons (gw_mem (i := 670) (by decide +kernel) rfl) (gw_cons (gw_mem (i := 672) (by decide +kernel) rfl) (gw_cons (gw_mem (i := 674) (by decide +kernel) rfl) (gw_cons (gw_mem (i := 676) (by decide +kernel) rfl) (gw_cons (gw_mem (i := 678) (by decide +kernel) rfl) ((fun _ h => absurd h List.not_mem_nil))))))))
def RVa : String := "NameMerges$Variant"
def TVa : u_T := fun k => match k with
  | 0 => ("NameMerges$Variant", "text", "Ljava/lang/String;", true)
  | _ => ("NameMerges$Variant", "inForce", "LNameMerges$Days;", true)
def tVa : Nat → FieldType := fun k => match k with
  | 0 => .object "java/lang/String"
  | _ => .object "NameMerges$Days"
theorem nVa : ∀ a, a < 2 → ∀ b, b < 2 → a ≠ b → (TVa a).2.1 ≠ (TVa b).2.1 := by decide +kernel
theorem tVa_ok : ∀ k, k < 2 → parseFieldDescriptor (TVa k).2.2.1 = some (tVa k) := by decide +kernel
theorem iVa : ∀ w ∈ u_ws RVa TVa 2, w ∈ gw := by
  have h : u_ws RVa TVa 2 = [Cond.laysFinal "NameMerges$Variant" "NameMerges$Variant" "text" "Ljava/lang/String;", Cond.laysFinal "NameMerges$Variant" "NameMerges$Variant" "inForce" "LNameMerges$Days;"] := by rfl
  rw [h]
  exact gw_cons (gw_mem (i := 788) (by decide +kernel) rfl) (gw_cons (gw_mem (i := 790) (by decide +kernel) rfl) ((fun _ h => absurd h List.not_mem_nil)))
def RDa : String := "NameMerges$Days"
def TDa : u_T := fun k => match k with
  | 0 => ("NameMerges$Days", "from", "I", true)
  | _ => ("NameMerges$Days", "to", "I", true)
def tDa : Nat → FieldType := fun k => match k with
  | 0 => .int
  | _ => .int
theorem nDa : ∀ a, a < 2 → ∀ b, b < 2 → a ≠ b → (TDa a).2.1 ≠ (TDa b).2.1 := by decide +kernel
theorem tDa_ok : ∀ k, k < 2 → parseFieldDescriptor (TDa k).2.2.1 = some (tDa k) := by decide +kernel
theorem iDa : ∀ w ∈ u_ws RDa TDa 2, w ∈ gw := by
  have h : u_ws RDa TDa 2 = [Cond.laysFinal "NameMerges$Days" "NameMerges$Days" "from" "I", Cond.laysFinal "NameMerges$Days" "NameMerges$Days" "to" "I"] := by rfl
  rw [h]
  exact gw_cons (gw_mem (i := 775) (by decide +kernel) rfl) (gw_cons (gw_mem (i := 777) (by decide +kernel) rfl) ((fun _ h => absurd h List.not_mem_nil)))
def RMe : String := "NameMerges$Merge"
def TMe : u_T := fun k => match k with
  | 0 => ("NameMerges$Merge", "both", "I", true)
  | 1 => ("NameMerges$Merge", "told", "I", true)
  | _ => ("NameMerges$Merge", "parted", "I", false)
def tMe : Nat → FieldType := fun k => match k with
  | 0 => .int
  | 1 => .int
  | _ => .int
theorem nMe : ∀ a, a < 3 → ∀ b, b < 3 → a ≠ b → (TMe a).2.1 ≠ (TMe b).2.1 := by decide +kernel
theorem tMe_ok : ∀ k, k < 3 → parseFieldDescriptor (TMe k).2.2.1 = some (tMe k) := by decide +kernel
theorem iMe : ∀ w ∈ u_ws RMe TMe 3, w ∈ gw := by
  have h : u_ws RMe TMe 3 = [Cond.laysFinal "NameMerges$Merge" "NameMerges$Merge" "both" "I", Cond.laysFinal "NameMerges$Merge" "NameMerges$Merge" "told" "I", Cond.lays "NameMerges$Merge" "NameMerges$Merge" "parted" "I"] := by rfl
  rw [h]
  exact gw_cons (gw_mem (i := 865) (by decide +kernel) rfl) (gw_cons (gw_mem (i := 867) (by decide +kernel) rfl) (gw_cons (gw_mem (i := 869) (by decide +kernel) rfl) ((fun _ h => absurd h List.not_mem_nil))))
def RAL : String := "java/util/ArrayList"
def TAL : u_T := fun k => match k with
  | 0 => ("java/util/ArrayList", "elementData", "[Ljava/lang/Object;", false)
  | 1 => ("java/util/ArrayList", "size", "I", false)
  | _ => ("java/util/AbstractList", "modCount", "I", false)
def tAL : Nat → FieldType := fun k => match k with
  | 0 => .array (.object "java/lang/Object")
  | 1 => .int
  | _ => .int
theorem nAL : ∀ a, a < 3 → ∀ b, b < 3 → a ≠ b → (TAL a).2.1 ≠ (TAL b).2.1 := by decide +kernel
theorem tAL_ok : ∀ k, k < 3 → parseFieldDescriptor (TAL k).2.2.1 = some (tAL k) := by decide +kernel
theorem iAL : ∀ w ∈ u_ws RAL TAL 3, w ∈ gw := by
  have h : u_ws RAL TAL 3 = [Cond.lays "java/util/ArrayList" "java/util/ArrayList" "elementData" "[Ljava/lang/Object;", Cond.lays "java/util/ArrayList" "java/util/ArrayList" "size" "I", Cond.lays "java/util/ArrayList" "java/util/AbstractList" "modCount" "I"] := by rfl
  rw [h]
  exact gw_cons (gw_mem (i := 119) (by decide +kernel) rfl) (gw_cons (gw_mem (i := 121) (by decide +kernel) rfl) (gw_cons (gw_mem (i := 123) (by decide +kernel) rfl) ((fun _ h => absurd h List.not_mem_nil))))
def RSB : String := "java/lang/StringBuilder"
def TSB : u_T := fun k => match k with
  | 0 => ("java/lang/AbstractStringBuilder", "value", "[B", false)
  | 1 => ("java/lang/AbstractStringBuilder", "coder", "B", false)
  | 2 => ("java/lang/AbstractStringBuilder", "maybeLatin1", "Z", false)
  | _ => ("java/lang/AbstractStringBuilder", "count", "I", false)
def tSB : Nat → FieldType := fun k => match k with
  | 0 => .array (.byte)
  | 1 => .byte
  | 2 => .boolean
  | _ => .int
theorem nSB : ∀ a, a < 4 → ∀ b, b < 4 → a ≠ b → (TSB a).2.1 ≠ (TSB b).2.1 := by decide +kernel
theorem tSB_ok : ∀ k, k < 4 → parseFieldDescriptor (TSB k).2.2.1 = some (tSB k) := by decide +kernel
theorem iSB : ∀ w ∈ u_ws RSB TSB 4, w ∈ gw := by
  have h : u_ws RSB TSB 4 = [Cond.lays "java/lang/StringBuilder" "java/lang/AbstractStringBuilder" "value" "[B", Cond.lays "java/lang/StringBuilder" "java/lang/AbstractStringBuilder" "coder" "B", Cond.lays "java/lang/StringBuilder" "java/lang/AbstractStringBuilder" "maybeLatin1" "Z", Cond.lays "java/lang/StringBuilder" "java/lang/AbstractStringBuilder" "count" "I"] := by rfl
  rw [h]
  exact gw_cons (gw_mem (i := 90) (by decide +kernel) rfl) (gw_cons (gw_mem (i := 92) (by decide +kernel) rfl) (gw_cons (gw_mem (i := 94) (by decide +kernel) rfl) (gw_cons (gw_mem (i := 96) (by decide +kernel) rfl) ((fun _ h => absurd h List.not_mem_nil)))))
def RSg : String := "java/lang/String"
def TSg : u_T := fun k => match k with
  | 0 => ("java/lang/String", "value", "[B", true)
  | 1 => ("java/lang/String", "coder", "B", true)
  | 2 => ("java/lang/String", "hash", "I", false)
  | _ => ("java/lang/String", "hashIsZero", "Z", false)
def tSg : Nat → FieldType := fun k => match k with
  | 0 => .array (.byte)
  | 1 => .byte
  | 2 => .int
  | _ => .boolean
theorem nSg : ∀ a, a < 4 → ∀ b, b < 4 → a ≠ b → (TSg a).2.1 ≠ (TSg b).2.1 := by decide +kernel
theorem tSg_ok : ∀ k, k < 4 → parseFieldDescriptor (TSg k).2.2.1 = some (tSg k) := by decide +kernel
theorem iSg : ∀ w ∈ u_ws RSg TSg 4, w ∈ gw := by
  have h : u_ws RSg TSg 4 = [Cond.laysFinal "java/lang/String" "java/lang/String" "value" "[B", Cond.laysFinal "java/lang/String" "java/lang/String" "coder" "B", Cond.lays "java/lang/String" "java/lang/String" "hash" "I", Cond.lays "java/lang/String" "java/lang/String" "hashIsZero" "Z"] := by rfl
  rw [h]
  exact gw_cons (gw_mem (i := 441) (by decide +kernel) rfl) (gw_cons (gw_mem (i := 443) (by decide +kernel) rfl) (gw_cons (gw_mem (i := 445) (by decide +kernel) rfl) (gw_cons (gw_mem (i := 447) (by decide +kernel) rfl) ((fun _ h => absurd h List.not_mem_nil)))))
abbrev vwCl : List vw_C := [(RMd, TMd, 28), (RNm, TNm, 8), (RNa, TNa, 7), (RVa, TVa, 2), (RDa, TDa, 2), (RMe, TMe, 3), (RAL, TAL, 3), (RSB, TSB, 4), (RSg, TSg, 4)]
abbrev tyl (cs : Nat → ClassId) : List (ClassId × FieldType) := [(cs 0, .int), (cs 1, .boolean), (cs 2, .byte), (cs 3, .long), (cs 4, .object "java/lang/Object")]
