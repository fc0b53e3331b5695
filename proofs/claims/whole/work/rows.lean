section
/-- a private method of a class that the tables say can be made, by its rows of tables_1 -/
def lw_okq (q : MethodName × Nat) : Prop := (q.1.cls ≠ "java/lang/invoke/MethodHandle" ∧ q.1.cls ≠ "java/lang/invoke/VarHandle") ∧ Cond.instantiable q.1.cls q.2 ∈ tables_1 ∧ Cond.privateMethod q.1 ∈ tables_1 ∧ Cond.instanceMethod q.1 ∈ tables_1
theorem lw_p0 : lw_okq (⟨"java/lang/Throwable", "fillInStackTrace", "(I)Ljava/lang/Throwable;"⟩, 6) := ⟨⟨by decide +kernel, by decide +kernel⟩, List.mem_of_getElem? (i := 364) (by decide +kernel), List.mem_of_getElem? (i := 362) (by decide +kernel), List.mem_of_getElem? (i := 363) (by decide +kernel)⟩
theorem lw_p1 : lw_okq (⟨"NameMerges", "oneWith", "(II)I"⟩, 8) := ⟨⟨by decide +kernel, by decide +kernel⟩, List.mem_of_getElem? (i := 31) (by decide +kernel), List.mem_of_getElem? (i := 477) (by decide +kernel), List.mem_of_getElem? (i := 478) (by decide +kernel)⟩
theorem lw_p2 : lw_okq (⟨"NameMerges", "likeness", "(LNameMerges$Name;LNameMerges$Name;)I"⟩, 8) := ⟨⟨by decide +kernel, by decide +kernel⟩, List.mem_of_getElem? (i := 31) (by decide +kernel), List.mem_of_getElem? (i := 509) (by decide +kernel), List.mem_of_getElem? (i := 510) (by decide +kernel)⟩
theorem lw_p3 : lw_okq (⟨"NameMerges", "mostPoints", "(LNameMerges$Name;LNameMerges$Name;)I"⟩, 8) := ⟨⟨by decide +kernel, by decide +kernel⟩, List.mem_of_getElem? (i := 31) (by decide +kernel), List.mem_of_getElem? (i := 513) (by decide +kernel), List.mem_of_getElem? (i := 514) (by decide +kernel)⟩
theorem lw_p4 : lw_okq (⟨"NameMerges", "points", "(Ljava/lang/String;Ljava/lang/String;)I"⟩, 8) := ⟨⟨by decide +kernel, by decide +kernel⟩, List.mem_of_getElem? (i := 31) (by decide +kernel), List.mem_of_getElem? (i := 518) (by decide +kernel), List.mem_of_getElem? (i := 519) (by decide +kernel)⟩
theorem lw_p5 : lw_okq (⟨"NameMerges", "longestShared", "(Ljava/lang/String;Ljava/lang/String;)I"⟩, 8) := ⟨⟨by decide +kernel, by decide +kernel⟩, List.mem_of_getElem? (i := 31) (by decide +kernel), List.mem_of_getElem? (i := 523) (by decide +kernel), List.mem_of_getElem? (i := 524) (by decide +kernel)⟩
theorem lw_p6 : lw_okq (⟨"NameMerges", "keepPair", "(I)V"⟩, 8) := ⟨⟨by decide +kernel, by decide +kernel⟩, List.mem_of_getElem? (i := 31) (by decide +kernel), List.mem_of_getElem? (i := 556) (by decide +kernel), List.mem_of_getElem? (i := 557) (by decide +kernel)⟩
theorem lw_p7 : lw_okq (⟨"NameMerges", "isLost", "(LNameMerges$Name;LNameMerges$Name;I)Z"⟩, 8) := ⟨⟨by decide +kernel, by decide +kernel⟩, List.mem_of_getElem? (i := 31) (by decide +kernel), List.mem_of_getElem? (i := 564) (by decide +kernel), List.mem_of_getElem? (i := 565) (by decide +kernel)⟩
theorem lw_p8 : lw_okq (⟨"java/util/ArrayList", "add", "(Ljava/lang/Object;[Ljava/lang/Object;I)V"⟩, 3) := ⟨⟨by decide +kernel, by decide +kernel⟩, List.mem_of_getElem? (i := 72) (by decide +kernel), List.mem_of_getElem? (i := 657) (by decide +kernel), List.mem_of_getElem? (i := 658) (by decide +kernel)⟩
theorem lw_p9 : lw_okq (⟨"java/util/ArrayList", "grow", "()[Ljava/lang/Object;"⟩, 3) := ⟨⟨by decide +kernel, by decide +kernel⟩, List.mem_of_getElem? (i := 72) (by decide +kernel), List.mem_of_getElem? (i := 661) (by decide +kernel), List.mem_of_getElem? (i := 662) (by decide +kernel)⟩
theorem lw_p10 : lw_okq (⟨"java/util/ArrayList", "grow", "(I)[Ljava/lang/Object;"⟩, 3) := ⟨⟨by decide +kernel, by decide +kernel⟩, List.mem_of_getElem? (i := 72) (by decide +kernel), List.mem_of_getElem? (i := 665) (by decide +kernel), List.mem_of_getElem? (i := 666) (by decide +kernel)⟩
theorem lw_p11 : lw_okq (⟨"NameMerges", "checkName", "(I)V"⟩, 8) := ⟨⟨by decide +kernel, by decide +kernel⟩, List.mem_of_getElem? (i := 31) (by decide +kernel), List.mem_of_getElem? (i := 707) (by decide +kernel), List.mem_of_getElem? (i := 708) (by decide +kernel)⟩
theorem lw_p12 : lw_okq (⟨"NameMerges", "areOneFrom", "(III)Z"⟩, 8) := ⟨⟨by decide +kernel, by decide +kernel⟩, List.mem_of_getElem? (i := 31) (by decide +kernel), List.mem_of_getElem? (i := 818) (by decide +kernel), List.mem_of_getElem? (i := 819) (by decide +kernel)⟩
theorem lw_p13 : lw_okq (⟨"NameMerges", "coverBelow", "(II)V"⟩, 8) := ⟨⟨by decide +kernel, by decide +kernel⟩, List.mem_of_getElem? (i := 31) (by decide +kernel), List.mem_of_getElem? (i := 870) (by decide +kernel), List.mem_of_getElem? (i := 871) (by decide +kernel)⟩
theorem lw_p14 : lw_okq (⟨"NameMerges", "ownerOf", "(II)I"⟩, 8) := ⟨⟨by decide +kernel, by decide +kernel⟩, List.mem_of_getElem? (i := 31) (by decide +kernel), List.mem_of_getElem? (i := 933) (by decide +kernel), List.mem_of_getElem? (i := 934) (by decide +kernel)⟩
theorem lw_p15 : lw_okq (⟨"NameMerges", "countVariants", "()I"⟩, 8) := ⟨⟨by decide +kernel, by decide +kernel⟩, List.mem_of_getElem? (i := 31) (by decide +kernel), List.mem_of_getElem? (i := 951) (by decide +kernel), List.mem_of_getElem? (i := 952) (by decide +kernel)⟩
def lw_privs_1 : List (MethodName × Nat) := [(⟨"java/lang/Throwable", "fillInStackTrace", "(I)Ljava/lang/Throwable;"⟩, 6), (⟨"NameMerges", "oneWith", "(II)I"⟩, 8), (⟨"NameMerges", "likeness", "(LNameMerges$Name;LNameMerges$Name;)I"⟩, 8), (⟨"NameMerges", "mostPoints", "(LNameMerges$Name;LNameMerges$Name;)I"⟩, 8), (⟨"NameMerges", "points", "(Ljava/lang/String;Ljava/lang/String;)I"⟩, 8), (⟨"NameMerges", "longestShared", "(Ljava/lang/String;Ljava/lang/String;)I"⟩, 8), (⟨"NameMerges", "keepPair", "(I)V"⟩, 8), (⟨"NameMerges", "isLost", "(LNameMerges$Name;LNameMerges$Name;I)Z"⟩, 8), (⟨"java/util/ArrayList", "add", "(Ljava/lang/Object;[Ljava/lang/Object;I)V"⟩, 3), (⟨"java/util/ArrayList", "grow", "()[Ljava/lang/Object;"⟩, 3), (⟨"java/util/ArrayList", "grow", "(I)[Ljava/lang/Object;"⟩, 3), (⟨"NameMerges", "checkName", "(I)V"⟩, 8), (⟨"NameMerges", "areOneFrom", "(III)Z"⟩, 8), (⟨"NameMerges", "coverBelow", "(II)V"⟩, 8), (⟨"NameMerges", "ownerOf", "(II)I"⟩, 8), (⟨"NameMerges", "countVariants", "()I"⟩, 8)]
theorem lw_r1 : ∀ q ∈ lw_privs_1, lw_okq q := List.forall_mem_cons.mpr ⟨lw_p0, List.forall_mem_cons.mpr ⟨lw_p1, List.forall_mem_cons.mpr ⟨lw_p2, List.forall_mem_cons.mpr ⟨lw_p3, List.forall_mem_cons.mpr ⟨lw_p4, List.forall_mem_cons.mpr ⟨lw_p5, List.forall_mem_cons.mpr ⟨lw_p6, List.forall_mem_cons.mpr ⟨lw_p7, List.forall_mem_cons.mpr ⟨lw_p8, List.forall_mem_cons.mpr ⟨lw_p9, List.forall_mem_cons.mpr ⟨lw_p10, List.forall_mem_cons.mpr ⟨lw_p11, List.forall_mem_cons.mpr ⟨lw_p12, List.forall_mem_cons.mpr ⟨lw_p13, List.forall_mem_cons.mpr ⟨lw_p14, List.forall_mem_cons.mpr ⟨lw_p15, fun _ h => absurd h List.not_mem_nil⟩⟩⟩⟩⟩⟩⟩⟩⟩⟩⟩⟩⟩⟩⟩⟩
theorem lw_p16 : lw_okq (⟨"NameMerges", "countDecided", "()I"⟩, 8) := ⟨⟨by decide +kernel, by decide +kernel⟩, List.mem_of_getElem? (i := 31) (by decide +kernel), List.mem_of_getElem? (i := 955) (by decide +kernel), List.mem_of_getElem? (i := 956) (by decide +kernel)⟩
theorem lw_p17 : lw_okq (⟨"NameMerges", "countBroader", "()I"⟩, 8) := ⟨⟨by decide +kernel, by decide +kernel⟩, List.mem_of_getElem? (i := 31) (by decide +kernel), List.mem_of_getElem? (i := 959) (by decide +kernel), List.mem_of_getElem? (i := 960) (by decide +kernel)⟩
theorem lw_p18 : lw_okq (⟨"NameMergesModel", "goes", "(ZZZ)Z"⟩, 28) := ⟨⟨by decide +kernel, by decide +kernel⟩, List.mem_of_getElem? (i := 964) (by decide +kernel), List.mem_of_getElem? (i := 1064) (by decide +kernel), List.mem_of_getElem? (i := 1065) (by decide +kernel)⟩
theorem lw_p19 : lw_okq (⟨"NameMergesModel", "isName", "(I)Z"⟩, 28) := ⟨⟨by decide +kernel, by decide +kernel⟩, List.mem_of_getElem? (i := 964) (by decide +kernel), List.mem_of_getElem? (i := 1080) (by decide +kernel), List.mem_of_getElem? (i := 1081) (by decide +kernel)⟩
theorem lw_p20 : lw_okq (⟨"NameMergesModel", "likeness", "(II)I"⟩, 28) := ⟨⟨by decide +kernel, by decide +kernel⟩, List.mem_of_getElem? (i := 964) (by decide +kernel), List.mem_of_getElem? (i := 1096) (by decide +kernel), List.mem_of_getElem? (i := 1097) (by decide +kernel)⟩
theorem lw_p21 : lw_okq (⟨"NameMergesModel", "common", "(II)I"⟩, 28) := ⟨⟨by decide +kernel, by decide +kernel⟩, List.mem_of_getElem? (i := 964) (by decide +kernel), List.mem_of_getElem? (i := 1100) (by decide +kernel), List.mem_of_getElem? (i := 1101) (by decide +kernel)⟩
theorem lw_p22 : lw_okq (⟨"NameMergesModel", "join", "(I)V"⟩, 28) := ⟨⟨by decide +kernel, by decide +kernel⟩, List.mem_of_getElem? (i := 964) (by decide +kernel), List.mem_of_getElem? (i := 1108) (by decide +kernel), List.mem_of_getElem? (i := 1109) (by decide +kernel)⟩
theorem lw_p23 : lw_okq (⟨"NameMergesModel", "begin", "(II)Z"⟩, 28) := ⟨⟨by decide +kernel, by decide +kernel⟩, List.mem_of_getElem? (i := 964) (by decide +kernel), List.mem_of_getElem? (i := 1120) (by decide +kernel), List.mem_of_getElem? (i := 1121) (by decide +kernel)⟩
theorem lw_p24 : lw_okq (⟨"NameMergesModel", "everOne", "(III)Z"⟩, 28) := ⟨⟨by decide +kernel, by decide +kernel⟩, List.mem_of_getElem? (i := 964) (by decide +kernel), List.mem_of_getElem? (i := 1132) (by decide +kernel), List.mem_of_getElem? (i := 1133) (by decide +kernel)⟩
theorem lw_p25 : lw_okq (⟨"NameMergesModel", "close", "()V"⟩, 28) := ⟨⟨by decide +kernel, by decide +kernel⟩, List.mem_of_getElem? (i := 964) (by decide +kernel), List.mem_of_getElem? (i := 1148) (by decide +kernel), List.mem_of_getElem? (i := 1149) (by decide +kernel)⟩
theorem lw_p26 : lw_okq (⟨"NameMergesModel", "hasPad", "(II)Z"⟩, 28) := ⟨⟨by decide +kernel, by decide +kernel⟩, List.mem_of_getElem? (i := 964) (by decide +kernel), List.mem_of_getElem? (i := 1160) (by decide +kernel), List.mem_of_getElem? (i := 1161) (by decide +kernel)⟩
theorem lw_p27 : lw_okq (⟨"NameMergesModel", "isPad", "(I)Z"⟩, 28) := ⟨⟨by decide +kernel, by decide +kernel⟩, List.mem_of_getElem? (i := 964) (by decide +kernel), List.mem_of_getElem? (i := 1164) (by decide +kernel), List.mem_of_getElem? (i := 1165) (by decide +kernel)⟩
theorem lw_p28 : lw_okq (⟨"NameMergesModel", "owner", "(II)I"⟩, 28) := ⟨⟨by decide +kernel, by decide +kernel⟩, List.mem_of_getElem? (i := 964) (by decide +kernel), List.mem_of_getElem? (i := 1180) (by decide +kernel), List.mem_of_getElem? (i := 1181) (by decide +kernel)⟩
def lw_privs_2 : List (MethodName × Nat) := [(⟨"NameMerges", "countDecided", "()I"⟩, 8), (⟨"NameMerges", "countBroader", "()I"⟩, 8), (⟨"NameMergesModel", "goes", "(ZZZ)Z"⟩, 28), (⟨"NameMergesModel", "isName", "(I)Z"⟩, 28), (⟨"NameMergesModel", "likeness", "(II)I"⟩, 28), (⟨"NameMergesModel", "common", "(II)I"⟩, 28), (⟨"NameMergesModel", "join", "(I)V"⟩, 28), (⟨"NameMergesModel", "begin", "(II)Z"⟩, 28), (⟨"NameMergesModel", "everOne", "(III)Z"⟩, 28), (⟨"NameMergesModel", "close", "()V"⟩, 28), (⟨"NameMergesModel", "hasPad", "(II)Z"⟩, 28), (⟨"NameMergesModel", "isPad", "(I)Z"⟩, 28), (⟨"NameMergesModel", "owner", "(II)I"⟩, 28)]
theorem lw_r2 : ∀ q ∈ lw_privs_2, lw_okq q := List.forall_mem_cons.mpr ⟨lw_p16, List.forall_mem_cons.mpr ⟨lw_p17, List.forall_mem_cons.mpr ⟨lw_p18, List.forall_mem_cons.mpr ⟨lw_p19, List.forall_mem_cons.mpr ⟨lw_p20, List.forall_mem_cons.mpr ⟨lw_p21, List.forall_mem_cons.mpr ⟨lw_p22, List.forall_mem_cons.mpr ⟨lw_p23, List.forall_mem_cons.mpr ⟨lw_p24, List.forall_mem_cons.mpr ⟨lw_p25, List.forall_mem_cons.mpr ⟨lw_p26, List.forall_mem_cons.mpr ⟨lw_p27, List.forall_mem_cons.mpr ⟨lw_p28, fun _ h => absurd h List.not_mem_nil⟩⟩⟩⟩⟩⟩⟩⟩⟩⟩⟩⟩⟩
def lw_privs : List (MethodName × Nat) := lw_privs_1 ++ (lw_privs_2)
def lw_tbl : List Cond := k2_sels lw_privs ++ tables_1
theorem lw_privs_ok : ∀ q ∈ lw_privs, lw_okq q := by
  show ∀ q ∈ lw_privs_1 ++ (lw_privs_2), lw_okq q
  exact List.forall_mem_append.mpr ⟨lw_r1, lw_r2⟩
/-! the words that every callee may take over -/
def gw : List Cond := lw_tbl.filter goodWord
theorem gw_mem {w : Cond} {i : Nat} (h : lw_tbl[i]? = some w) (hg : goodWord w = true) : w ∈ gw := List.mem_filter.mpr ⟨List.mem_of_getElem? h, hg⟩
theorem gw_good {w : Cond} (h : w ∈ gw) : (w.onTables && w.keeps) = true ∨ ∃ ty, w = .arrayClass ty := good_of_word (List.mem_filter.mp h).2
theorem gw_sub {ws : List Cond} (h : ∀ w ∈ ws, w ∈ gw) : GoodIn gw ws := fun w hw => ⟨h w hw, gw_good (h w hw)⟩
theorem gw_cons {w : Cond} {ws : List Cond} (h : w ∈ gw) (t : ∀ w ∈ ws, w ∈ gw) : ∀ x ∈ w :: ws, x ∈ gw := fun x hx => (List.mem_cons.mp hx).elim (fun e => e ▸ h) (t x)
theorem gw_V {own C : String} {idx n : Nat} {z : MethodName} {cz : ByteArray} {rz : Option FieldType} (h1 : Cond.methodLink own idx z ∈ gw) (h2 : Cond.instanceMethod z ∈ gw) (h3 : Cond.selects C z z ∈ gw) (h4 : Cond.initialized C ∈ gw) (h5 : Cond.code z cz n rz ∈ gw) : GoodIn gw (wsV own idx C z (Cond.code z cz n rz :: gw)) :=
  gw_sub (gw_cons h1 (gw_cons h2 (gw_cons h3 (gw_cons h4 (gw_cons h5 (fun _ h => h))))))
theorem gw_S {own : String} {idx n : Nat} {z : MethodName} {cz : ByteArray} {rz : Option FieldType} (h1 : Cond.methodLink own idx z ∈ gw) (h2 : Cond.static z ∈ gw) (h4 : Cond.initialized own ∈ gw) (h5 : Cond.code z cz n rz ∈ gw) : GoodIn gw (wsS own idx z (Cond.code z cz n rz :: gw)) :=
  gw_sub (gw_cons h1 (gw_cons h2 (gw_cons h4 (gw_cons h5 (fun _ h => h)))))
theorem gw_I {n : Nat} {z : MethodName} {cz : ByteArray} {rz : Option FieldType} (h5 : Cond.code z cz n rz ∈ gw) : GoodIn gw (Cond.code z cz n rz :: gw) := gw_sub (gw_cons h5 (fun _ h => h))
def RMd : String := "NameMergesModel"
def TMd : u_T := fun k => match k with
  | 0 => ("NameMergesModel", "thrown", "I", false)
  | 1 => ("NameMergesModel", "padded", "I", false)
  | 2 => ("NameMergesModel", "pad", "[I", true)
  | 3 => ("NameMergesModel", "names", "I", false)
  | 4 => ("NameMergesModel", "many", "[I", true)
  | 5 => ("NameMergesModel", "lengths", "[I", true)
  | 6 => ("NameMergesModel", "signs", "[I", true)
  | 7 => ("NameMergesModel", "languages", "[I", true)
  | 8 => ("NameMergesModel", "froms", "[I", true)
  | 9 => ("NameMergesModel", "tos", "[I", true)
  | 10 => ("NameMergesModel", "firstDays", "[I", true)
  | 11 => ("NameMergesModel", "lastDays", "[I", true)
  | 12 => ("NameMergesModel", "decided", "[I", true)
  | 13 => ("NameMergesModel", "broad", "[Z", true)
  | 14 => ("NameMergesModel", "reach", "[Z", true)
  | 15 => ("NameMergesModel", "numbers", "[I", true)
  | 16 => ("NameMergesModel", "merges", "I", false)
  | 17 => ("NameMergesModel", "ones", "[I", true)
  | 18 => ("NameMergesModel", "others", "[I", true)
  | 19 => ("NameMergesModel", "begins", "[I", true)
  | 20 => ("NameMergesModel", "ends", "[I", true)
  | 21 => ("NameMergesModel", "group", "[I", true)
  | 22 => ("NameMergesModel", "pairs", "I", false)
  | 23 => ("NameMergesModel", "firsts", "[I", true)
  | 24 => ("NameMergesModel", "seconds", "[I", true)
  | 25 => ("NameMergesModel", "finds", "I", false)
  | 26 => ("NameMergesModel", "founds", "[I", true)
  | _ => ("NameMergesModel", "rows", "[I", true)
def tMd : Nat → FieldType := fun k => match k with
  | 0 => .int
  | 1 => .int
  | 2 => .array (.int)
  | 3 => .int
  | 4 => .array (.int)
  | 5 => .array (.int)
  | 6 => .array (.int)
  | 7 => .array (.int)
  | 8 => .array (.int)
  | 9 => .array (.int)
  | 10 => .array (.int)
  | 11 => .array (.int)
  | 12 => .array (.int)
  | 13 => .array (.boolean)
  | 14 => .array (.boolean)
  | 15 => .array (.int)
  | 16 => .int
  | 17 => .array (.int)
  | 18 => .array (.int)
  | 19 => .array (.int)
  | 20 => .array (.int)
  | 21 => .array (.int)
  | 22 => .int
  | 23 => .array (.int)
  | 24 => .array (.int)
  | 25 => .int
  | 26 => .array (.int)
  | _ => .array (.int)
theorem nMd : ∀ a, a < 28 → ∀ b, b < 28 → a ≠ b → (TMd a).2.1 ≠ (TMd b).2.1 := by decide +kernel
theorem tMd_ok : ∀ k, k < 28 → parseFieldDescriptor (TMd k).2.2.1 = some (tMd k) := by decide +kernel
theorem iMd : ∀ w ∈ u_ws RMd TMd 28, w ∈ gw := by
  have h : u_ws RMd TMd 28 = [Cond.lays "NameMergesModel" "NameMergesModel" "thrown" "I", Cond.lays "NameMergesModel" "NameMergesModel" "padded" "I", Cond.laysFinal "NameMergesModel" "NameMergesModel" "pad" "[I", Cond.lays "NameMergesModel" "NameMergesModel" "names" "I", Cond.laysFinal "NameMergesModel" "NameMergesModel" "many" "[I", Cond.laysFinal "NameMergesModel" "NameMergesModel" "lengths" "[I", Cond.laysFinal "NameMergesModel" "NameMergesModel" "signs" "[I", Cond.laysFinal "NameMergesModel" "NameMergesModel" "languages" "[I", Cond.laysFinal "NameMergesModel" "NameMergesModel" "froms" "[I", Cond.laysFinal "NameMergesModel" "NameMergesModel" "tos" "[I", Cond.laysFinal "NameMergesModel" "NameMergesModel" "firstDays" "[I", Cond.laysFinal "NameMergesModel" "NameMergesModel" "lastDays" "[I", Cond.laysFinal "NameMergesModel" "NameMergesModel" "decided" "[I", Cond.laysFinal "NameMergesModel" "NameMergesModel" "broad" "[Z", Cond.laysFinal "NameMergesModel" "NameMergesModel" "reach" "[Z", Cond.laysFinal "NameMergesModel" "NameMergesModel" "numbers" "[I", Cond.lays "NameMergesModel" "NameMergesModel" "merges" "I", Cond.laysFinal "NameMergesModel" "NameMergesModel" "ones" "[I", Cond.laysFinal "NameMergesModel" "NameMergesModel" "others" "[I", Cond.laysFinal "NameMergesModel" "NameMergesModel" "begins" "[I", Cond.laysFinal "NameMergesModel" "NameMergesModel" "ends" "[I", Cond.laysFinal "NameMergesModel" "NameMergesModel" "group" "[I", Cond.lays "NameMergesModel" "NameMergesModel" "pairs" "I", Cond.laysFinal "NameMergesModel" "NameMergesModel" "firsts" "[I", Cond.laysFinal "NameMergesModel" "NameMergesModel" "seconds" "[I", Cond.lays "NameMergesModel" "NameMergesModel" "finds" "I", Cond.laysFinal "NameMergesModel" "NameMergesModel" "founds" "[I", Cond.laysFinal "NameMergesModel" "NameMergesModel" "rows" "[I"] := by rfl
  rw [h]
  exact gw_cons (gw_mem (i := 1026) (by decide +kernel) rfl) (gw_cons (gw_mem (i := 1028) (by decide +kernel) rfl) (gw_cons (gw_mem (i := 1030) (by decide +kernel) rfl) (gw_cons (gw_mem (i := 1032) (by decide +kernel) rfl) (gw_cons (gw_mem (i := 1034) (by decide +kernel) rfl) (gw_cons (gw_mem (i := 1036) (by decide +kernel) rfl) (gw_cons (gw_mem (i := 1038) (by decide +kernel) rfl) (gw_cons (gw_mem (i := 1040) (by decide +kernel) rfl) (gw_cons (gw_mem (i := 1042) (by decide +kernel) rfl) (gw_cons (gw_mem (i := 1044) (by decide +kernel) rfl) (gw_cons (gw_mem (i := 1046) (by decide +kernel) rfl) (gw_cons (gw_mem (i := 1048) (by decide +kernel) rfl) (gw_cons (gw_mem (i := 1050) (by decide +kernel) rfl) (gw_cons (gw_mem (i := 1052) (by decide +kernel) rfl) (gw_cons (gw_mem (i := 1054) (by decide +kernel) rfl) (gw_cons (gw_mem (i := 1056) (by decide +kernel) rfl) (gw_cons (gw_mem (i := 1058) (by decide +kernel) rfl) (gw_cons (gw_mem (i := 1060) (by decide +kernel) rfl) (gw_cons (gw_mem (i := 1062) (by decide +kernel) rfl) (gw_cons (gw_mem (i := 1064) (by decide +kernel) rfl) (gw_cons (gw_mem (i := 1066) (by decide +kernel) rfl) (gw_cons (gw_mem (i := 1068) (by decide +kernel) rfl) (gw_cons (gw_mem (i := 1070) (by decide +kernel) rfl) (gw_cons (gw_mem (i := 1072) (by decide +kernel) rfl) (gw_cons (gw_mem (i := 1074) (by decide +kernel) rfl) (gw_cons (gw_mem (i := 1076) (by decide +kernel) rfl) (gw_cons (gw_mem (i := 1078) (by decide +kernel) rfl) (gw_cons (gw_mem (i := 1080) (by decide +kernel) rfl) ((fun _ h => absurd h List.not_mem_nil)))))))))))))))))))))))))))))
def RNm : String := "NameMerges"
def TNm : u_T := fun k => match k with
  | 0 => ("NameMerges", "pad", "Ljava/lang/StringBuilder;", true)
  | 1 => ("NameMerges", "names", "Ljava/util/ArrayList;", true)
  | 2 => ("NameMerges", "merges", "Ljava/util/ArrayList;", true)
  | 3 => ("NameMerges", "decisions", "[I", true)
  | 4 => ("NameMerges", "foundPairs", "[I", true)
  | 5 => ("NameMerges", "foundPairCount", "I", false)
  | 6 => ("NameMerges", "foundNames", "I", false)
  | _ => ("NameMerges", "sharedSoFar", "[I", true)
def tNm : Nat → FieldType := fun k => match k with
  | 0 => .object "java/lang/StringBuilder"
  | 1 => .object "java/util/ArrayList"
  | 2 => .object "java/util/ArrayList"
  | 3 => .array (.int)
  | 4 => .array (.int)
  | 5 => .int
  | 6 => .int
  | _ => .array (.int)
theorem nNm : ∀ a, a < 8 → ∀ b, b < 8 → a ≠ b → (TNm a).2.1 ≠ (TNm b).2.1 := by decide +kernel
theorem tNm_ok : ∀ k, k < 8 → parseFieldDescriptor (TNm k).2.2.1 = some (tNm k) := by decide +kernel
theorem iNm : ∀ w ∈ u_ws RNm TNm 8, w ∈ gw := by
  have h : u_ws RNm TNm 8 = [Cond.laysFinal "NameMerges" "NameMerges" "pad" "Ljava/lang/StringBuilder;", Cond.laysFinal "NameMerges" "NameMerges" "names" "Ljava/util/ArrayList;", Cond.laysFinal "NameMerges" "NameMerges" "merges" "Ljava/util/ArrayList;", Cond.laysFinal "NameMerges" "NameMerges" "decisions" "[I", Cond.laysFinal "NameMerges" "NameMerges" "foundPairs" "[I", Cond.lays "NameMerges" "NameMerges" "foundPairCount" "I", Cond.lays "NameMerges" "NameMerges" "foundNames" "I", Cond.laysFinal "NameMerges" "NameMerges" "sharedSoFar" "[I"] := by rfl
  rw [h]
  exact gw_cons (gw_mem (i := 134) (by decide +kernel) rfl) (gw_cons (gw_mem (i := 136) (by decide +kernel) rfl) (gw_cons (gw_mem (i := 138) (by decide +kernel) rfl) (gw_cons (gw_mem (i := 140) (by decide +kernel) rfl) (gw_cons (gw_mem (i := 142) (by decide +kernel) rfl) (gw_cons (gw_mem (i := 144) (by decide +kernel) rfl) (gw_cons (gw_mem (i := 146) (by decide +kernel) rfl) (gw_cons (gw_mem (i := 148) (by decide +kernel) rfl) ((fun _ h => absurd h List.not_mem_nil)))))))))
def RNa : String := "NameMerges$Name"
def TNa : u_T := fun k => match k with
  | 0 => ("NameMerges$Name", "variants", "Ljava/util/ArrayList;", true)
  | 1 => ("NameMerges$Name", "numbers", "[I", true)
  | 2 => ("NameMerges$Name", "dates", "LNameMerges$Days;", false)
  | 3 => ("NameMerges$Name", "languages", "I", false)
  | 4 => ("NameMerges$Name", "beginnings", "I", false)
  | 5 => ("NameMerges$Name", "narrower", "I", false)
  | _ => ("NameMerges$Name", "covered", "I", false)
def tNa : Nat → FieldType := fun k => match k with
  | 0 => .object "java/util/ArrayList"
  | 1 => .array (.int)
  | 2 => .object "NameMerges$Days"
  | 3 => .int
  | 4 => .int
  | 5 => .int
  | _ => .int
theorem nNa : ∀ a, a < 7 → ∀ b, b < 7 → a ≠ b → (TNa a).2.1 ≠ (TNa b).2.1 := by decide +kernel
theorem tNa_ok : ∀ k, k < 7 → parseFieldDescriptor (TNa k).2.2.1 = some (tNa k) := by decide +kernel
theorem iNa : ∀ w ∈ u_ws RNa TNa 7, w ∈ gw := by
  have h : u_ws RNa TNa 7 = [Cond.laysFinal "NameMerges$Name" "NameMerges$Name" "variants" "Ljava/util/ArrayList;", Cond.laysFinal "NameMerges$Name" "NameMerges$Name" "numbers" "[I", Cond.lays "NameMerges$Name" "NameMerges$Name" "dates" "LNameMerges$Days;", Cond.lays "NameMerges$Name" "NameMerges$Name" "languages" "I", Cond.lays "NameMerges$Name" "NameMerges$Name" "beginnings" "I", Cond.lays "NameMerges$Name" "NameMerges$Name" "narrower" "I", Cond.lays "NameMerges$Name" "NameMerges$Name" "covered" "I"] := by rfl
  rw [h]
  exact gw_cons (gw_mem (i := 666) (by decide +kernel) rfl) (gw_cons (gw_mem (i := 668) (by decide +kernel) rfl) (gw_cons (gw_mem (i := 670) (by decide +kernel) rfl) (gw_cons (gw_mem (i := 672) (by decide +kernel) rfl) (gw_cons (gw_mem (i := 674) (by decide +kernel) rfl) (gw_cons (gw_mem (i := 676) (by decide +kernel) rfl) (gw_cons (gw_mem (i := 678) (by decide +kernel) rfl) ((fun _ h => absurd h List.not_mem_nil))))))))
def RVa : String := "NameMerges$Variant"
def TVa : u_T := fun k => match k with
  | 0 => ("NameMerges$Variant", "text", "Ljava/lang/String;", true)
  | _ => ("NameMerges$Variant", "inForce", "LNameMerges$Days;", true)
def tVa : Nat → FieldType := fun k => match k with
  | 0 => .object "java/lang/String"
  | _ => .object "NameMerges$Days"
theorem nVa : ∀ a, a < 2 → ∀ b, b < 2 → a ≠ b → (TVa a).2.1 ≠ (TVa b).2.1 := by decide +kernel
theorem tVa_ok : ∀ k, k < 2 → parseFieldDescriptor (TVa k).2.2.1 = some (tVa k) := by decide +kernel
theorem iVa : ∀ w ∈ u_ws RVa TVa 2, w ∈ gw := by
  have h : u_ws RVa TVa 2 = [Cond.laysFinal "NameMerges$Variant" "NameMerges$Variant" "text" "Ljava/lang/String;", Cond.laysFinal "NameMerges$Variant" "NameMerges$Variant" "inForce" "LNameMerges$Days;"] := by rfl
  rw [h]
  exact gw_cons (gw_mem (i := 788) (by decide +kernel) rfl) (gw_cons (gw_mem (i := 790) (by decide +kernel) rfl) ((fun _ h => absurd h List.not_mem_nil)))
def RDa : String := "NameMerges$Days"
def TDa : u_T := fun k => match k with
  | 0 => ("NameMerges$Days", "from", "I", true)
  | _ => ("NameMerges$Days", "to", "I", true)
def tDa : Nat → FieldType := fun k => match k with
  | 0 => .int
  | _ => .int
theorem nDa : ∀ a, a < 2 → ∀ b, b < 2 → a ≠ b → (TDa a).2.1 ≠ (TDa b).2.1 := by decide +kernel
theorem tDa_ok : ∀ k, k < 2 → parseFieldDescriptor (TDa k).2.2.1 = some (tDa k) := by decide +kernel
theorem iDa : ∀ w ∈ u_ws RDa TDa 2, w ∈ gw := by
  have h : u_ws RDa TDa 2 = [Cond.laysFinal "NameMerges$Days" "NameMerges$Days" "from" "I", Cond.laysFinal "NameMerges$Days" "NameMerges$Days" "to" "I"] := by rfl
  rw [h]
  exact gw_cons (gw_mem (i := 775) (by decide +kernel) rfl) (gw_cons (gw_mem (i := 777) (by decide +kernel) rfl) ((fun _ h => absurd h List.not_mem_nil)))
def RMe : String := "NameMerges$Merge"
def TMe : u_T := fun k => match k with
  | 0 => ("NameMerges$Merge", "both", "I", true)
  | 1 => ("NameMerges$Merge", "told", "I", true)
  | _ => ("NameMerges$Merge", "parted", "I", false)
def tMe : Nat → FieldType := fun k => match k with
  | 0 => .int
  | 1 => .int
  | _ => .int
theorem nMe : ∀ a, a < 3 → ∀ b, b < 3 → a ≠ b → (TMe a).2.1 ≠ (TMe b).2.1 := by decide +kernel
theorem tMe_ok : ∀ k, k < 3 → parseFieldDescriptor (TMe k).2.2.1 = some (tMe k) := by decide +kernel
theorem iMe : ∀ w ∈ u_ws RMe TMe 3, w ∈ gw := by
  have h : u_ws RMe TMe 3 = [Cond.laysFinal "NameMerges$Merge" "NameMerges$Merge" "both" "I", Cond.laysFinal "NameMerges$Merge" "NameMerges$Merge" "told" "I", Cond.lays "NameMerges$Merge" "NameMerges$Merge" "parted" "I"] := by rfl
  rw [h]
  exact gw_cons (gw_mem (i := 865) (by decide +kernel) rfl) (gw_cons (gw_mem (i := 867) (by decide +kernel) rfl) (gw_cons (gw_mem (i := 869) (by decide +kernel) rfl) ((fun _ h => absurd h List.not_mem_nil))))
def RAL : String := "java/util/ArrayList"
def TAL : u_T := fun k => match k with
  | 0 => ("java/util/ArrayList", "elementData", "[Ljava/lang/Object;", false)
  | 1 => ("java/util/ArrayList", "size", "I", false)
  | _ => ("java/util/AbstractList", "modCount", "I", false)
def tAL : Nat → FieldType := fun k => match k with
  | 0 => .array (.object "java/lang/Object")
  | 1 => .int
  | _ => .int
theorem nAL : ∀ a, a < 3 → ∀ b, b < 3 → a ≠ b → (TAL a).2.1 ≠ (TAL b).2.1 := by decide +kernel
theorem tAL_ok : ∀ k, k < 3 → parseFieldDescriptor (TAL k).2.2.1 = some (tAL k) := by decide +kernel
theorem iAL : ∀ w ∈ u_ws RAL TAL 3, w ∈ gw := by
  have h : u_ws RAL TAL 3 = [Cond.lays "java/util/ArrayList" "java/util/ArrayList" "elementData" "[Ljava/lang/Object;", Cond.lays "java/util/ArrayList" "java/util/ArrayList" "size" "I", Cond.lays "java/util/ArrayList" "java/util/AbstractList" "modCount" "I"] := by rfl
  rw [h]
  exact gw_cons (gw_mem (i := 119) (by decide +kernel) rfl) (gw_cons (gw_mem (i := 121) (by decide +kernel) rfl) (gw_cons (gw_mem (i := 123) (by decide +kernel) rfl) ((fun _ h => absurd h List.not_mem_nil))))
def RSB : String := "java/lang/StringBuilder"
def TSB : u_T := fun k => match k with
  | 0 => ("java/lang/AbstractStringBuilder", "value", "[B", false)
  | 1 => ("java/lang/AbstractStringBuilder", "coder", "B", false)
  | 2 => ("java/lang/AbstractStringBuilder", "maybeLatin1", "Z", false)
  | _ => ("java/lang/AbstractStringBuilder", "count", "I", false)
def tSB : Nat → FieldType := fun k => match k with
  | 0 => .array (.byte)
  | 1 => .byte
  | 2 => .boolean
  | _ => .int
theorem nSB : ∀ a, a < 4 → ∀ b, b < 4 → a ≠ b → (TSB a).2.1 ≠ (TSB b).2.1 := by decide +kernel
theorem tSB_ok : ∀ k, k < 4 → parseFieldDescriptor (TSB k).2.2.1 = some (tSB k) := by decide +kernel
theorem iSB : ∀ w ∈ u_ws RSB TSB 4, w ∈ gw := by
  have h : u_ws RSB TSB 4 = [Cond.lays "java/lang/StringBuilder" "java/lang/AbstractStringBuilder" "value" "[B", Cond.lays "java/lang/StringBuilder" "java/lang/AbstractStringBuilder" "coder" "B", Cond.lays "java/lang/StringBuilder" "java/lang/AbstractStringBuilder" "maybeLatin1" "Z", Cond.lays "java/lang/StringBuilder" "java/lang/AbstractStringBuilder" "count" "I"] := by rfl
  rw [h]
  exact gw_cons (gw_mem (i := 90) (by decide +kernel) rfl) (gw_cons (gw_mem (i := 92) (by decide +kernel) rfl) (gw_cons (gw_mem (i := 94) (by decide +kernel) rfl) (gw_cons (gw_mem (i := 96) (by decide +kernel) rfl) ((fun _ h => absurd h List.not_mem_nil)))))
def RSg : String := "java/lang/String"
def TSg : u_T := fun k => match k with
  | 0 => ("java/lang/String", "value", "[B", true)
  | 1 => ("java/lang/String", "coder", "B", true)
  | 2 => ("java/lang/String", "hash", "I", false)
  | _ => ("java/lang/String", "hashIsZero", "Z", false)
def tSg : Nat → FieldType := fun k => match k with
  | 0 => .array (.byte)
  | 1 => .byte
  | 2 => .int
  | _ => .boolean
theorem nSg : ∀ a, a < 4 → ∀ b, b < 4 → a ≠ b → (TSg a).2.1 ≠ (TSg b).2.1 := by decide +kernel
theorem tSg_ok : ∀ k, k < 4 → parseFieldDescriptor (TSg k).2.2.1 = some (tSg k) := by decide +kernel
theorem iSg : ∀ w ∈ u_ws RSg TSg 4, w ∈ gw := by
  have h : u_ws RSg TSg 4 = [Cond.laysFinal "java/lang/String" "java/lang/String" "value" "[B", Cond.laysFinal "java/lang/String" "java/lang/String" "coder" "B", Cond.lays "java/lang/String" "java/lang/String" "hash" "I", Cond.lays "java/lang/String" "java/lang/String" "hashIsZero" "Z"] := by rfl
  rw [h]
  exact gw_cons (gw_mem (i := 441) (by decide +kernel) rfl) (gw_cons (gw_mem (i := 443) (by decide +kernel) rfl) (gw_cons (gw_mem (i := 445) (by decide +kernel) rfl) (gw_cons (gw_mem (i := 447) (by decide +kernel) rfl) ((fun _ h => absurd h List.not_mem_nil)))))
abbrev vwCl : List vw_C := [(RMd, TMd, 28), (RNm, TNm, 8), (RNa, TNa, 7), (RVa, TVa, 2), (RDa, TDa, 2), (RMe, TMe, 3), (RAL, TAL, 3), (RSB, TSB, 4), (RSg, TSg, 4)]
abbrev tyl (cs : Nat → ClassId) : List (ClassId × FieldType) := [(cs 0, .int), (cs 1, .boolean), (cs 2, .byte), (cs 3, .long), (cs 4, .object "java/lang/Object")]
end
section
/-! HEAP BY FACTS: a heap is known by facts 'va_at D cl (address, contents) H'; a row that writes or makes says what it did to ONE address, and that all others are as they were. -/
section HX
variable {p : Program} {l : Launch} {e : Env} {R : Room} {s : State} {m : MethodId} {args : Array Value} {below : List Frame} {meth : Method} {c : Code} {H : Heap} {locs : List Loc} {cells slots : Nat} {Q : State → Prop}
variable {cc : ByteArray} {pc : Nat} {ls : Array Slot} {rest st0 : List Value} {D : va_G} {cl : List vw_C} {tys : List (ClassId × FieldType)} {a : Nat} {A A0 A1 : Nat → Prop} {H0 : Heap}
theorem hx_P {q : Nat × va_E} (h : va_at D cl q H) : va_P D cl [q] H := by
  intro k x hk
  cases k with
  | zero => cases hk; exact h
  | succ k => cases hk
theorem hx_get (hexec : p.tables.exec = Jvm.exec) (hb : c.code = cc) {own ref C : String} {T : u_T} {N ci index : Nat} {Ts : List Cond} (hts : ∀ w ∈ Ts, w.before args s = true) (hin : ∀ w ∈ u_ws C T N, w ∈ Ts) (hown : s.vm.findClass own = some m.cls) (hK : va_K D cl tys s) {fs : List Value} (h : va_at D cl (a, .inr (ci, fs)) H) (hc : cl[ci]? = some (C, T, N)) (k : Nat) (hk : k < N) (hlink : (Cond.fieldLink own index ref (T k).2.1 (T k).2.2.1).before args s = true) (hsame : ∀ x, s.fieldFound? (T k).1 (T k).2.1 (T k).2.2.1 = some x → s.fieldFound? ref (T k).2.1 (T k).2.2.1 = some x) {v : Value} (hv : fs[k]? = some v) (hdg : decode cc pc = .ok (.getfield index, 3))
    (kk : W p l e R s m args below meth c H locs cells slots Q (F0 m (pc + 3) ls (v :: rest))) : W p l e R s m args below meth c H locs cells slots Q (F0 m pc ls (.ref a :: rest)) :=
  va_get hexec hb hts hin hown hK (hx_P h) 0 rfl hc k hk hlink hsame hv hdg kk
theorem hx_put (hexec : p.tables.exec = Jvm.exec) (hb : c.code = cc) {own ref C : String} {T : u_T} {N ci index : Nat} {Ts : List Cond} (hts : ∀ w ∈ Ts, w.before args s = true) (hin : ∀ w ∈ u_ws C T N, w ∈ Ts) (ty0 : Nat → FieldType) (hty : ∀ k, k < N → parseFieldDescriptor (T k).2.2.1 = some (ty0 k)) (hnm : ∀ a, a < N → ∀ b, b < N → a ≠ b → (T a).2.1 ≠ (T b).2.1) (hown : s.vm.findClass own = some m.cls) (hK : va_K D cl tys s) {fs : List Value} (h : va_at D cl (a, .inr (ci, fs)) H) (hS : va_S A H0 H locs) (hA : A a) (hc : cl[ci]? = some (C, T, N)) (k : Nat) (hk : k < N) (hlink : (Cond.fieldLink own index ref (T k).2.1 (T k).2.2.1).before args s = true) (hsame : ∀ x, s.fieldFound? (T k).1 (T k).2.1 (T k).2.2.1 = some x → s.fieldFound? ref (T k).2.1 (T k).2.2.1 = some x) (hfin : (T k).2.2.2 = false) {ty : FieldType} {v : Value} (hd : parseFieldDescriptor (T k).2.2.1 = some ty) (hn : narrow ty v = v) (hfit : fits ty v = true) (hl : k < fs.length)
    (hdg : decode cc pc = .ok (.putfield index, 3)) (kk : ∀ (H1 : Heap) (locs1 : List Loc), va_at D cl (a, .inr (ci, fs.set k v)) H1 → H1.size = H.size → (∀ q : Nat, q ≠ a → H1[q]? = H[q]?) → va_S A H0 H1 locs1 → W p l e R s m args below meth c H1 locs1 cells slots Q (F0 m (pc + 3) ls rest)) : W p l e R s m args below meth c H locs cells slots Q (F0 m pc ls (v :: .ref a :: rest)) := by
  have hap := va_apart (own := own) hts hin ty0 hty hnm hK hc
  obtain ⟨r, h1, cell, q1, q2, q3, q4⟩ := h
  cases Option.some.inj (h1.symm.trans hc)
  obtain ⟨hSl, hfc, kC, hkC, hkind⟩ := hK.1 ci _ hc
  obtain ⟨cf, kf, fi, f, hi, hsl⟩ := hSl k hk
  have hlay := hts _ (hin _ (u_in_lay hk))
  unfold u_lay at hlay
  rw [if_neg (by rw [hfin]; decide)] at hlay
  refine W.putK hexec hb (f := f) ⟨hown, hlink, ⟨_, _, _, hsame _ hi⟩, (u_facts hfc hkC (u_lays hts hin hk) hi).1⟩ (by rw [q2]; exact u_store hfc hkC hkind hlay hi hd hn hfit) q1 q3 (by rw [hsl]; exact k2_hasslot (q4 k hk)) rfl rfl hdg fun H' e1 e2 e3 => ?_
  rw [hsl] at e1 ⊢
  exact kk H' _ ⟨_, hc, t_OB.to (V := updV (vp_V fs) k v) ⟨_, e1, q2, q3, t_set q4 hap hk v⟩ (fun j _ => vp_updV_set hl v j)⟩ e2 e3 (hS.put e2 e3 hA)
theorem hx_putF (hexec : p.tables.exec = Jvm.exec) (hb : c.code = cc) {own ref C : String} {T : u_T} {N ci index : Nat} {Ts : List Cond} (hts : ∀ w ∈ Ts, w.before args s = true) (hin : ∀ w ∈ u_ws C T N, w ∈ Ts) (ty0 : Nat → FieldType) (hty : ∀ k, k < N → parseFieldDescriptor (T k).2.2.1 = some (ty0 k)) (hnm : ∀ a, a < N → ∀ b, b < N → a ≠ b → (T a).2.1 ≠ (T b).2.1) (hown : s.vm.findClass own = some m.cls) (hK : va_K D cl tys s) {fs : List Value} (h : va_at D cl (a, .inr (ci, fs)) H) (hS : va_S A H0 H locs) (hA : A a) (hc : cl[ci]? = some (C, T, N)) (k : Nat) (hk : k < N) (hlink : (Cond.fieldLink own index ref (T k).2.1 (T k).2.2.1).before args s = true) (hsame : ∀ x, s.fieldFound? (T k).1 (T k).2.1 (T k).2.2.1 = some x → s.fieldFound? ref (T k).2.1 (T k).2.2.1 = some x) (hfin : (T k).2.2.2 = true) (hin2 : meth.name = "<init>") (hdecl : (T k).1 = own) {ty : FieldType} {v : Value} (hd : parseFieldDescriptor (T k).2.2.1 = some ty) (hn : narrow ty v = v) (hfit : fits ty v = true) (hl : k < fs.length)
    (hdg : decode cc pc = .ok (.putfield index, 3)) (kk : ∀ (H1 : Heap) (locs1 : List Loc), va_at D cl (a, .inr (ci, fs.set k v)) H1 → H1.size = H.size → (∀ q : Nat, q ≠ a → H1[q]? = H[q]?) → va_S A H0 H1 locs1 → W p l e R s m args below meth c H1 locs1 cells slots Q (F0 m (pc + 3) ls rest)) : W p l e R s m args below meth c H locs cells slots Q (F0 m pc ls (v :: .ref a :: rest)) := by
  have hap := va_apart (own := own) hts hin ty0 hty hnm hK hc
  obtain ⟨r, h1, cell, q1, q2, q3, q4⟩ := h
  cases Option.some.inj (h1.symm.trans hc)
  obtain ⟨hSl, hfc, kC, hkC, hkind⟩ := hK.1 ci _ hc
  obtain ⟨cf, kf, fi, f, hi, hsl⟩ := hSl k hk
  have hlay := hts _ (hin _ (u_in_lay hk))
  unfold u_lay at hlay
  rw [if_pos hfin] at hlay
  have hcf : m.cls = cf := by
    obtain ⟨_, _, c', _, _, _, -, -, hf', -, -, -, hown2, -⟩ := Cond.laysFinal_spec hlay
    have e1 : c' = cf := by have := hi.symm.trans hf'; simp at this; exact this.1.symm
    rw [hdecl] at hown2
    rw [← e1]; exact Option.some.inj (hown.symm.trans hown2)
  refine W.putFinK hexec hb hown hlink (hsame _ hi) (u_facts hfc hkC (u_lays hts hin hk) hi).1 hcf hin2 (by rw [q2]; exact u_fits hfc hkC hkind (Or.inr hlay) hi hd hn hfit) q1 q3 (by rw [hsl]; exact k2_hasslot (q4 k hk)) rfl rfl hdg fun H' e1 e2 e3 => ?_
  rw [hsl] at e1 ⊢
  exact kk H' _ ⟨_, hc, t_OB.to (V := updV (vp_V fs) k v) ⟨_, e1, q2, q3, t_set q4 hap hk v⟩ (fun j _ => vp_updV_set hl v j)⟩ e2 e3 (hS.put e2 e3 hA)
theorem hx_new (hexec : p.tables.exec = Jvm.exec) (hb : c.code = cc) {own C : String} {T : u_T} {N ci index : Nat} {Ts : List Cond} (hts : ∀ w ∈ Ts, w.before args s = true) (hin : ∀ w ∈ u_ws C T N, w ∈ Ts) (ty : Nat → FieldType) (hty : ∀ k, k < N → parseFieldDescriptor (T k).2.2.1 = some (ty k)) (hown : s.vm.findClass own = some m.cls) (hcl : (Cond.classLink own index C).before args s = true) (hinst : (Cond.instantiable C N).before args s = true) (hini : (Cond.initialized C).before args s = true)
    (hK : va_K D cl tys s) (hS : va_S A H0 H locs) (hc : cl[ci]? = some (C, T, N)) {fs : List Value} (hfs : ∀ j, j < N → defaultValue (ty j) = vp_V fs j) (hcells : cells + 1 ≤ R.cells) (hslots : slots + N ≤ R.slots) (hdg : decode cc pc = .ok (.new index, 3))
    (kk : ∀ (H1 : Heap), va_at D cl (H.size, .inr (ci, fs)) H1 → H1.size = H.size + 1 → (∀ q : Nat, q < H.size → H1[q]? = H[q]?) → va_S A H0 H1 locs →
      W p l e R s m args below meth c H1 locs (cells + 1) (slots + N) Q (F0 m (pc + 3) ls (.ref H.size :: rest))) : W p l e R s m args below meth c H locs cells slots Q (F0 m pc ls rest) := by
  have hKn := hK.1 ci _ hc
  refine W.newcK hexec hb hown hcl hinst hini rfl hdg hcells hslots hKn.2.1 rfl fun H1 kC hkC e1 z1 o1 => ?_
  exact kk H1 ⟨_, hc, (u_born ty hts hin hKn hkC e1 hty).to hfs⟩ z1 o1 ⟨Nat.le_trans hS.1 (by omega), fun x h1 h2 => (o1 x (Nat.lt_of_lt_of_le h1 hS.1)).trans (hS.2.1 x h1 h2), hS.2.2⟩
theorem hx_S1 {H1 : Heap} (hS : va_S A H0 H locs) (z : H.size ≤ H1.size) (o : ∀ q : Nat, q < H.size → H1[q]? = H[q]?) : va_S A H0 H1 locs := ⟨Nat.le_trans hS.1 z, fun x h1 h2 => (o x (Nat.lt_of_lt_of_le h1 hS.1)).trans (hS.2.1 x h1 h2), hS.2.2⟩

theorem hx_newa (hexec : p.tables.exec = Jvm.exec) (hb : c.code = cc) {atype : ArrayType} (harr : (Cond.arrayClass (newarray.typeOf atype)).before args s = true) (hK : va_K D cl tys s) (hS : va_S A H0 H locs) (t0 : Nat) {cA : ClassId} (ht : tys[t0]? = some (cA, newarray.typeOf atype))
    {n : Int32} {N' : Nat} {a0 : vp_A} (ha : vp_cell cA a0 = arrV cA N' (fun _ => defaultValue (newarray.typeOf atype))) (hn : ¬ n < 0) (hN : n.toNatClampNeg = N') (hbytes : N' * componentBytes (newarray.typeOf atype) ≤ 536870912) (hcells : cells + 1 ≤ R.cells) (hslots : slots + N' ≤ R.slots) (hdg : decode cc pc = .ok (.newarray atype, 2))
    (kk : ∀ (H1 : Heap), va_at D cl (H.size, .inl (cA, a0)) H1 → H1.size = H.size + 1 → (∀ q : Nat, q < H.size → H1[q]? = H[q]?) → va_S A H0 H1 locs →
      W p l e R s m args below meth c H1 locs (cells + 1) (slots + N') Q (F0 m (pc + 2) ls (.ref H.size :: rest))) : W p l e R s m args below meth c H locs cells slots Q (F0 m pc ls (.int n :: rest)) := by
  refine va_newaK hexec hb harr rfl hdg rfl hn hN hbytes hcells hslots rfl fun H1 cB e1 z1 o1 hAr hNm => ?_
  have hc : cB = cA := by
    have h2 := (hK.2 t0 _ ht).2
    have h3 : s.vm.findClass ("[" ++ (newarray.typeOf atype).toString) = some cA := by cases atype <;> exact h2
    exact Option.some.inj (hNm.symm.trans h3)
  subst hc
  refine kk H1 ?_ z1 o1 (hx_S1 hS (by omega) o1)
  show H1[H.size]? = some (vp_cell _ _)
  rw [ha]
  exact e1
theorem hx_newq (hexec : p.tables.exec = Jvm.exec) (hb : c.code = cc) {own C : String} {index : Nat} (hown : s.vm.findClass own = some m.cls) (hclink : (Cond.classLink own index C).before args s = true) (hover : (Cond.arrayOver (.object C)).before args s = true) (hK : va_K D cl tys s) (hS : va_S A H0 H locs) (t0 : Nat) {cA : ClassId} (ht : tys[t0]? = some (cA, .object C))
    {n : Int32} {N' : Nat} (hn : ¬ n < 0) (hN : n.toNatClampNeg = N') (hbytes : N' * 4 ≤ 536870912) (hcells : cells + 1 ≤ R.cells) (hslots : slots + N' ≤ R.slots) (hdg : decode cc pc = .ok (.anewarray index, 3))
    (kk : ∀ (H1 : Heap), va_at D cl (H.size, .inl (cA, N', .inr (.inr (.inr (.inr (fun _ => none)))))) H1 → H1.size = H.size + 1 → (∀ q : Nat, q < H.size → H1[q]? = H[q]?) → va_S A H0 H1 locs →
      W p l e R s m args below meth c H1 locs (cells + 1) (slots + N') Q (F0 m (pc + 3) ls (.ref H.size :: rest))) : W p l e R s m args below meth c H locs cells slots Q (F0 m pc ls (.int n :: rest)) := by
  subst hN
  refine W.anew hexec hb hown hclink hover rfl hdg rfl hn hbytes hcells hslots fun cB kB comp f1 f2 f3 f4 => ?_
  obtain ⟨kA, comp', g1, g2, g3, g4⟩ := (hK.2 t0 _ ht).2
  have hc : cB = cA := Option.some.inj (f1.symm.trans g4)
  subst hc
  generalize hH1 : H.push ({ cls := cB, slots := Array.replicate n.toNatClampNeg .null, vm := .none } : Cell) = H1
  have z1 : H1.size = H.size + 1 := by rw [← hH1, Array.size_push]
  have e1 : H1[H.size]? = some (arrV cB n.toNatClampNeg (fun _ => .null)) := by rw [← hH1, Array.getElem?_push_size, ← arrV_new]
  have o1 : ∀ q : Nat, q < H.size → H1[q]? = H[q]? := fun q hq => by rw [← hH1, Array.getElem?_push, if_neg (Nat.ne_of_lt hq)]
  exact kk H1 e1 z1 o1 (hx_S1 hS (by omega) o1)
theorem hx_iald (hexec : p.tables.exec = Jvm.exec) (hb : c.code = cc) (hK : va_K D cl tys s) (t0 : Nat) {cA : ClassId} {n : Nat} {f : Nat → Int32} (h : va_at D cl (a, .inl (cA, n, .inl f)) H) (ht : tys[t0]? = some (cA, .int)) {i : Int32} (hin : vp_in i n) (hdg : decode cc pc = .ok (.iaload, 1))
    (kk : W p l e R s m args below meth c H locs cells slots Q (F0 m (pc + 1) ls (.int (f i.toNatClampNeg) :: rest))) : W p l e R s m args below meth c H locs cells slots Q (F0 m pc ls (.int i :: .ref a :: rest)) :=
  va_iald hexec hb hK (hx_P h) 0 t0 rfl ht hin hdg kk
theorem hx_bald (hexec : p.tables.exec = Jvm.exec) (hb : c.code = cc) (hK : va_K D cl tys s) (t0 : Nat) {cA : ClassId} {n : Nat} {f : Nat → Int32} (h : va_at D cl (a, .inl (cA, n, .inl f)) H) (ht : tys[t0]? = some (cA, .byte)) {i : Int32} (hin : vp_in i n) (hdg : decode cc pc = .ok (.baload, 1))
    (kk : W p l e R s m args below meth c H locs cells slots Q (F0 m (pc + 1) ls (.int (f i.toNatClampNeg) :: rest))) : W p l e R s m args below meth c H locs cells slots Q (F0 m pc ls (.int i :: .ref a :: rest)) :=
  va_bald hexec hb hK (hx_P h) 0 t0 rfl ht hin hdg kk
theorem hx_zald (hexec : p.tables.exec = Jvm.exec) (hb : c.code = cc) (hK : va_K D cl tys s) (t0 : Nat) {cA : ClassId} {n : Nat} {f : Nat → Int32} (h : va_at D cl (a, .inl (cA, n, .inl f)) H) (ht : tys[t0]? = some (cA, .boolean)) {i : Int32} (hin : vp_in i n) (hdg : decode cc pc = .ok (.baload, 1))
    (kk : W p l e R s m args below meth c H locs cells slots Q (F0 m (pc + 1) ls (.int (f i.toNatClampNeg) :: rest))) : W p l e R s m args below meth c H locs cells slots Q (F0 m pc ls (.int i :: .ref a :: rest)) :=
  va_zald hexec hb hK (hx_P h) 0 t0 rfl ht hin hdg kk
theorem hx_lald (hexec : p.tables.exec = Jvm.exec) (hb : c.code = cc) (hK : va_K D cl tys s) (t0 : Nat) {cA : ClassId} {n : Nat} {f : Nat → Int64} (h : va_at D cl (a, .inl (cA, n, .inr (.inl f))) H) (ht : tys[t0]? = some (cA, .long)) {i : Int32} (hin : vp_in i n) (hdg : decode cc pc = .ok (.laload, 1))
    (kk : W p l e R s m args below meth c H locs cells slots Q (F0 m (pc + 1) ls (.long (f i.toNatClampNeg) :: rest))) : W p l e R s m args below meth c H locs cells slots Q (F0 m pc ls (.int i :: .ref a :: rest)) :=
  va_lald hexec hb hK (hx_P h) 0 t0 rfl ht hin hdg kk
theorem hx_aald (hexec : p.tables.exec = Jvm.exec) (hb : c.code = cc) (hK : va_K D cl tys s) (t0 : Nat) {cA : ClassId} {C : String} {n : Nat} {f : Nat → Option Nat} (h : va_at D cl (a, .inl (cA, n, .inr (.inr (.inr (.inr f))))) H) (ht : tys[t0]? = some (cA, .object C)) {i : Int32} (hin : vp_in i n) (hdg : decode cc pc = .ok (.aaload, 1))
    (kk : W p l e R s m args below meth c H locs cells slots Q (F0 m (pc + 1) ls (va_rf (f i.toNatClampNeg) :: rest))) : W p l e R s m args below meth c H locs cells slots Q (F0 m pc ls (.int i :: .ref a :: rest)) :=
  va_aldq hexec hb hK (hx_P h) 0 t0 rfl ht hin hdg kk
theorem hx_alen (hexec : p.tables.exec = Jvm.exec) (hb : c.code = cc) (hK : va_K D cl tys s) (t0 : Nat) {cA : ClassId} {x : vp_A} (h : va_at D cl (a, .inl (cA, x)) H) {ty : FieldType} (ht : tys[t0]? = some (cA, ty)) {v : Int32} (hv : Int32.ofNat x.1 = v) (hdg : decode cc pc = .ok (.arraylength, 1))
    (kk : W p l e R s m args below meth c H locs cells slots Q (F0 m (pc + 1) ls (.int v :: rest))) : W p l e R s m args below meth c H locs cells slots Q (F0 m pc ls (.ref a :: rest)) :=
  va_alen hexec hb hK (hx_P h) 0 t0 rfl ht hv hdg kk
theorem hx_iast (hexec : p.tables.exec = Jvm.exec) (hb : c.code = cc) (hK : va_K D cl tys s) (hS : va_S A H0 H locs) (hA : A a) (t0 : Nat) {cA : ClassId} {n : Nat} {f : Nat → Int32} (h : va_at D cl (a, .inl (cA, n, .inl f)) H) (ht : tys[t0]? = some (cA, .int)) {i : Int32} {x : Int32} (hin : vp_in i n) (hdg : decode cc pc = .ok (.iastore, 1))
    (kk : ∀ (H1 : Heap) (locs1 : List Loc), va_at D cl (a, .inl (cA, n, .inl (upd f i.toNatClampNeg x))) H1 → H1.size = H.size → (∀ q : Nat, q ≠ a → H1[q]? = H[q]?) → va_S A H0 H1 locs1 → W p l e R s m args below meth c H1 locs1 cells slots Q (F0 m (pc + 1) ls rest)) : W p l e R s m args below meth c H locs cells slots Q (F0 m pc ls (.int x :: .int i :: .ref a :: rest)) := by
  refine W.iast hexec hb h ((hK.2 t0 _ ht).1 n (fun j => .int (f j))) (fun q => by cases q) (by show ¬ (i < 0 ∨ (arrV _ _ _).slots.size ≤ _); rw [arrV_size]; exact hin) rfl rfl hdg fun H1 e z oq => ?_
  refine kk H1 _ ?_ z oq (hS.put z oq hA)
  show H1[a]? = some (vp_cell _ _)
  rw [e, vp_cell_i, vp_cell_i, arrV_store]
  congr 2
  funext q
  by_cases hq : q = i.toNatClampNeg
  · subst hq
    simp [updV, upd]
  · simp [updV, upd, hq]
theorem hx_bast (hexec : p.tables.exec = Jvm.exec) (hb : c.code = cc) (hK : va_K D cl tys s) (hS : va_S A H0 H locs) (hA : A a) (t0 : Nat) {cA : ClassId} {n : Nat} {f : Nat → Int32} (h : va_at D cl (a, .inl (cA, n, .inl f)) H) (ht : tys[t0]? = some (cA, .byte)) {i : Int32} {x : Int32} (hin : vp_in i n) (hdg : decode cc pc = .ok (.bastore, 1))
    (kk : ∀ (H1 : Heap) (locs1 : List Loc), va_at D cl (a, .inl (cA, n, .inl (upd f i.toNatClampNeg (vp_nar .byte x)))) H1 → H1.size = H.size → (∀ q : Nat, q ≠ a → H1[q]? = H[q]?) → va_S A H0 H1 locs1 → W p l e R s m args below meth c H1 locs1 cells slots Q (F0 m (pc + 1) ls rest)) : W p l e R s m args below meth c H locs cells slots Q (F0 m pc ls (.int x :: .int i :: .ref a :: rest)) := by
  refine W.bast hexec hb h ((hK.2 t0 _ ht).1 n (fun j => .int (f j))) (fun q => by cases q) (by show ¬ (i < 0 ∨ (arrV _ _ _).slots.size ≤ _); rw [arrV_size]; exact hin) rfl rfl hdg fun H1 e z oq => ?_
  refine kk H1 _ ?_ z oq (hS.put z oq hA)
  show H1[a]? = some (vp_cell _ _)
  rw [e, vp_cell_i, vp_cell_i, arrV_store]
  congr 2
  funext q
  by_cases hq : q = i.toNatClampNeg
  · subst hq
    simp [updV, upd, vp_nar]
    try rfl
  · simp [updV, upd, hq]
theorem hx_zast (hexec : p.tables.exec = Jvm.exec) (hb : c.code = cc) (hK : va_K D cl tys s) (hS : va_S A H0 H locs) (hA : A a) (t0 : Nat) {cA : ClassId} {n : Nat} {f : Nat → Int32} (h : va_at D cl (a, .inl (cA, n, .inl f)) H) (ht : tys[t0]? = some (cA, .boolean)) {i : Int32} {x : Int32} (hin : vp_in i n) (hdg : decode cc pc = .ok (.bastore, 1))
    (kk : ∀ (H1 : Heap) (locs1 : List Loc), va_at D cl (a, .inl (cA, n, .inl (upd f i.toNatClampNeg (vp_nar .boolean x)))) H1 → H1.size = H.size → (∀ q : Nat, q ≠ a → H1[q]? = H[q]?) → va_S A H0 H1 locs1 → W p l e R s m args below meth c H1 locs1 cells slots Q (F0 m (pc + 1) ls rest)) : W p l e R s m args below meth c H locs cells slots Q (F0 m pc ls (.int x :: .int i :: .ref a :: rest)) := by
  refine W.zast hexec hb h ((hK.2 t0 _ ht).1 n (fun j => .int (f j))) (fun q => by cases q) (by show ¬ (i < 0 ∨ (arrV _ _ _).slots.size ≤ _); rw [arrV_size]; exact hin) rfl rfl hdg fun H1 e z oq => ?_
  refine kk H1 _ ?_ z oq (hS.put z oq hA)
  show H1[a]? = some (vp_cell _ _)
  rw [e, vp_cell_i, vp_cell_i, arrV_store]
  congr 2
  funext q
  by_cases hq : q = i.toNatClampNeg
  · subst hq
    simp [updV, upd, vp_nar]
    try rfl
  · simp [updV, upd, hq]
theorem hx_last (hexec : p.tables.exec = Jvm.exec) (hb : c.code = cc) (hK : va_K D cl tys s) (hS : va_S A H0 H locs) (hA : A a) (t0 : Nat) {cA : ClassId} {n : Nat} {f : Nat → Int64} (h : va_at D cl (a, .inl (cA, n, .inr (.inl f))) H) (ht : tys[t0]? = some (cA, .long)) {i : Int32} {x : Int64} (hin : vp_in i n) (hdg : decode cc pc = .ok (.lastore, 1))
    (kk : ∀ (H1 : Heap) (locs1 : List Loc), va_at D cl (a, .inl (cA, n, .inr (.inl (vp_updL f i.toNatClampNeg x)))) H1 → H1.size = H.size → (∀ q : Nat, q ≠ a → H1[q]? = H[q]?) → va_S A H0 H1 locs1 → W p l e R s m args below meth c H1 locs1 cells slots Q (F0 m (pc + 1) ls rest)) : W p l e R s m args below meth c H locs cells slots Q (F0 m pc ls (.long x :: .int i :: .ref a :: rest)) := by
  refine W.last hexec hb h ((hK.2 t0 _ ht).1 n (fun j => .long (f j))) (fun q => by cases q) (by show ¬ (i < 0 ∨ (arrV _ _ _).slots.size ≤ _); rw [arrV_size]; exact hin) rfl rfl hdg fun H1 e z oq => ?_
  refine kk H1 _ ?_ z oq (hS.put z oq hA)
  show H1[a]? = some (vp_cell _ _)
  rw [e, vp_cell_l, vp_cell_l, arrV_store]
  congr 2
  funext q
  by_cases hq : q = i.toNatClampNeg
  · subst hq
    simp [updV, vp_updL]
  · simp [updV, vp_updL, hq]
/-- a reference goes into an array of E's: what is stored is some object of the tables that is an E -/
theorem hx_aast (hexec : p.tables.exec = Jvm.exec) (hb : c.code = cc) (hK : va_K D cl tys s) (hS : va_S A H0 H locs) (hA : A a) (t0 : Nat) {E : String} {cA : ClassId} {n v : Nat} {f : Nat → Option Nat} (h : va_at D cl (a, .inl (cA, n, .inr (.inr (.inr (.inr f))))) H) (ht : tys[t0]? = some (cA, .object E)) (hr : va_Any E s H v) {i : Int32} (hin : vp_in i n) (hdg : decode cc pc = .ok (.aastore, 1))
    (kk : ∀ (H1 : Heap) (locs1 : List Loc), va_at D cl (a, .inl (cA, n, .inr (.inr (.inr (.inr (va_up f i.toNatClampNeg (some v))))))) H1 → H1.size = H.size → (∀ q : Nat, q ≠ a → H1[q]? = H[q]?) → va_S A H0 H1 locs1 → W p l e R s m args below meth c H1 locs1 cells slots Q (F0 m (pc + 1) ls rest)) : W p l e R s m args below meth c H locs cells slots Q (F0 m pc ls (.ref v :: .int i :: .ref a :: rest)) := by
  have hlt : i.toNatClampNeg < n := Nat.not_le.mp fun q => hin (Or.inr q)
  have h0 : ¬ i < 0 := fun q => hin (Or.inl q)
  obtain ⟨cellV, g1, g2, ⟨kV, g3⟩, g4⟩ := hr
  obtain ⟨kA, comp, k1, k2, k3, -⟩ := (hK.2 t0 _ ht).2
  obtain ⟨kC, hkC, -⟩ := Vm.findClass_spec k3
  refine W.aast hexec hb h (fun q h => by cases h) (fun h => by cases h) k1 k2 rfl hkC ⟨h0, by show _ < (arrV _ _ _).slots.size; rw [arrV_size]; exact hlt⟩ g1 (fun q h => by rw [h] at g2; cases g2) g3 (g4 _ k3) rfl rfl hdg fun H1 e z oq => ?_
  refine kk H1 _ ?_ z oq (hS.put z oq hA)
  show H1[a]? = some (vp_cell _ _)
  rw [e, vp_cell_q, vp_cell_q, arrV_store]
  congr 2
  funext q
  by_cases hq : q = i.toNatClampNeg
  · subst hq
    simp [updV, va_up, va_rf]
  · simp [updV, va_up, hq]
theorem hx_recv {ci : Nat} {q : vw_C} {fs : List Value} (hK : va_K D cl tys s) (hc : cl[ci]? = some q) (h : va_at D cl (a, .inr (ci, fs)) H) : ∃ cell : Cell, H[a]? = some cell ∧ cell.vm.isStatics = false ∧ s.vm.findClass q.1 = some cell.cls := va_recv hK (hx_P h) hc (q0 := 0) rfl
/-- a fact goes over to a later heap that is the same there -/
theorem hx_keep {H1 : Heap} {x : va_E} (h : va_at D cl (a, x) H) (hq : H1[a]? = H[a]?) : va_at D cl (a, x) H1 := va_at.kept (q := (a, x)) h hq
theorem hx_lt {x : va_E} (h : va_at D cl (a, x) H) : a < H.size := va_at.lt (q := (a, x)) h
end HX
end
section
/-! what is given at every method's start; contracts by heap facts; calls -/
def gZ (N0 : Nat) (U : State) : Prop := N0 ≤ U.heap.size
def gB (D : va_G) (cs : Nat → ClassId) (N0 : Nat) (U : State) : Prop := va_K D vwCl (tyl cs) U ∧ gZ N0 U
theorem gB.moved {D : va_G} {cs : Nat → ClassId} {N0 : Nat} {u U : State} (hvm : u.vm.Alike U.vm) (hz : u.heap.size ≤ U.heap.size) (hh : ∀ q : Nat, q < N0 → U.heap[q]? = u.heap[q]?) (h : gB D cs N0 u) : gB D cs N0 U := ⟨va_K.moved hvm h.1, Nat.le_trans h.2 hz⟩
abbrev hPre (D : va_G) (cs : Nat → ClassId) (N0 : Nat) (av : List Value) (H : Heap) : Array Value → State → Prop := va_Pc av (fun U => U.heap = H ∧ gB D cs N0 U)
abbrev hQi (post : Int32 → Heap → Prop) (A : Nat → Prop) : Array Value → State → Outcome → State → Prop := va_Qi (S := Heap) post (fun u t => t.heap = u) A
abbrev hQv (post : Heap → Prop) (A : Nat → Prop) : Array Value → State → Outcome → State → Prop := va_Qv (S := Heap) post (fun u t => t.heap = u) A
abbrev hQq (post : Option Nat → Heap → Prop) (A : Nat → Prop) : Array Value → State → Outcome → State → Prop := va_Qq (S := Heap) post (fun u t => t.heap = u) A
theorem hPre.blind {D : va_G} {cs : Nat → ClassId} {N0 : Nat} {av : List Value} {H : Heap} : FrameBlind (hPre D cs N0 av H) := fun _ U _ _ q => ⟨q.1, q.2.1, gB.moved (u := U) (Vm.Alike.refl U.vm) (Nat.le_refl _) (fun _ _ => rfl) q.2.2⟩
theorem hPre.at {D : va_G} {cs : Nat → ClassId} {N0 : Nat} {av : List Value} {H : Heap} {s : State} {A : Nat → Prop} {locs : List Loc} (hB : gB D cs N0 s) (hS : va_S A s.heap H locs) (hA : ∀ q, A q → N0 ≤ q) : ∀ U : State, U.heap = H → s.WarmedH U.vm → hPre D cs N0 av H av.toArray U :=
  fun U hU hW => ⟨rfl, hU, gB.moved hW.alike (by rw [hU]; exact hS.1) (fun q hq => by rw [hU]; exact hS.2.1 q (Nat.lt_of_lt_of_le hq hB.2) (fun h => absurd (hA q h) (Nat.not_le.mpr hq))) hB⟩
section HC
variable {p : Program} {l : Launch} {e : Env} {R : Room} {s : State} {m : MethodId} {args : Array Value} {below : List Frame} {meth : Method} {c : Code} {H : Heap} {locs : List Loc} {cells slots : Nat} {Q : State → Prop}
variable {cc : ByteArray} {pc mc ms : Nat} {ls : Array Slot} {rest st0 : List Value} {A0 A1 : Nat → Prop} {H0 : Heap} {av : Array Value}
theorem lv_eqi {x y : Int32} (h : x = y) (k : W p l e R s m args below meth c H locs cells slots Q (F0 m pc ls (.int y :: rest))) : W p l e R s m args below meth c H locs cells slots Q (F0 m pc ls (.int x :: rest)) := h ▸ k
theorem h_calli {post : Int32 → Heap → Prop} (hr : va_Run p l e R s m args below meth c H locs cells slots mc ms (F0 m pc ls st0) rest (hQi post A1 av) A1) (hS : va_S A0 H0 H locs) (hA : ∀ q, A1 q → A0 q)
    (kk : ∀ (r : Int32) (H1 : Heap) (locs1 : List Loc), post r H1 → H.size ≤ H1.size → (∀ q : Nat, q < H.size → ¬ A1 q → H1[q]? = H[q]?) → va_S A0 H0 H1 locs1 → W p l e R s m args below meth c H1 locs1 (cells + mc) (slots + ms) Q (F0 m (pc + 3) ls (.int r :: rest))) : W p l e R s m args below meth c H locs cells slots Q (F0 m pc ls st0) :=
  va_calli hr hS (fun q _ h => hA q h) hA (fun r u t H1 locs1 ht _ hp hb hz hk hS1 => by
    have hu : u = H1 := hb.symm.trans ht
    subst hu
    exact kk r u locs1 hp hz hk hS1)
theorem h_callv {post : Heap → Prop} (hr : va_Run p l e R s m args below meth c H locs cells slots mc ms (F0 m pc ls st0) rest (hQv post A1 av) A1) (hS : va_S A0 H0 H locs) (hA : ∀ q, A1 q → A0 q)
    (kk : ∀ (H1 : Heap) (locs1 : List Loc), post H1 → H.size ≤ H1.size → (∀ q : Nat, q < H.size → ¬ A1 q → H1[q]? = H[q]?) → va_S A0 H0 H1 locs1 → W p l e R s m args below meth c H1 locs1 (cells + mc) (slots + ms) Q (F0 m (pc + 3) ls rest)) : W p l e R s m args below meth c H locs cells slots Q (F0 m pc ls st0) :=
  va_callv hr hS (fun q _ h => hA q h) hA (fun u t H1 locs1 ht _ hp hb hz hk hS1 => by
    have hu : u = H1 := hb.symm.trans ht
    subst hu
    exact kk u locs1 hp hz hk hS1)
end HC
/-! the reference's state: int fields i (thrown, padded, names, merges, pairs, finds), arrays f at the addresses g -/
def md_fs (g : Nat → Nat) (i : Nat → Int32) : List Value := [.int (i 0), .int (i 1), .ref (g 0), .int (i 2), .ref (g 1), .ref (g 2), .ref (g 3), .ref (g 4), .ref (g 5), .ref (g 6), .ref (g 7), .ref (g 8), .ref (g 9), .ref (g 10), .ref (g 11), .ref (g 12), .int (i 3), .ref (g 13), .ref (g 14), .ref (g 15), .ref (g 16), .ref (g 17), .int (i 4), .ref (g 18), .ref (g 19), .int (i 5), .ref (g 20), .ref (g 21)]
def md_ty (k : Nat) : Nat := match k with
  | 10 => 1
  | 11 => 1
  | _ => 0
def md_len (k : Nat) : Nat := match k with
  | 0 => 12 | 1 => 24 | 2 => 96 | 3 => 1152 | 4 => 96 | 5 => 96 | 6 => 96 | 7 => 24 | 8 => 24 | 9 => 576 | 10 => 576 | 11 => 576 | 12 => 96 | 13 => 60 | 14 => 60 | 15 => 60 | 16 => 60 | 17 => 24 | 18 => 276 | 19 => 276 | 20 => 24
  | _ => 169
def md_I (D : va_G) (cs : Nat → ClassId) (H : Heap) (x : Nat) (g : Nat → Nat) (i : Nat → Int32) (f : Nat → Nat → Int32) : Prop := va_at D vwCl (x, .inr (0, md_fs g i)) H ∧ ∀ k, k < 22 → va_at D vwCl (g k, .inl (cs (md_ty k), (md_len k, .inl (f k)))) H
def md_sep (N0 x : Nat) (g : Nat → Nat) : Prop := N0 ≤ x ∧ (∀ k, k < 22 → g k ≠ x ∧ N0 ≤ g k) ∧ ∀ j k, j < 22 → k < 22 → g j = g k → j = k
def md_A (x : Nat) (g : Nat → Nat) : Nat → Prop := fun q => q = x ∨ ∃ k, k < 22 ∧ q = g k
def updA (f : Nat → Nat → Int32) (k j : Nat) (v : Int32) : Nat → Nat → Int32 := fun a => if a = k then upd (f k) j v else f a
theorem md_sep.A {N0 x : Nat} {g : Nat → Nat} (h : md_sep N0 x g) : ∀ q, md_A x g q → N0 ≤ q := fun q hq => by
  rcases hq with rfl | ⟨k, hk, rfl⟩
  · exact h.1
  · exact (h.2.1 k hk).2
theorem md_I.puti {D : va_G} {cs : Nat → ClassId} {N0 x : Nat} {g : Nat → Nat} {i i' : Nat → Int32} {f : Nat → Nat → Int32} {H H1 : Heap} {fs : List Value} (h : md_I D cs H x g i f) (hs : md_sep N0 x g) (hat : va_at D vwCl (x, .inr (0, fs)) H1) (ho : ∀ q : Nat, q ≠ x → H1[q]? = H[q]?) (hf : fs = md_fs g i') : md_I D cs H1 x g i' f :=
  ⟨hf ▸ hat, fun k hk => hx_keep (h.2 k hk) (ho _ (hs.2.1 k hk).1)⟩
theorem md_I.puta {D : va_G} {cs : Nat → ClassId} {N0 x k j : Nat} {v : Int32} {g : Nat → Nat} {i : Nat → Int32} {f : Nat → Nat → Int32} {H H1 : Heap} (h : md_I D cs H x g i f) (hs : md_sep N0 x g) (hk : k < 22) (hat : va_at D vwCl (g k, .inl (cs (md_ty k), (md_len k, .inl (upd (f k) j v)))) H1) (ho : ∀ q : Nat, q ≠ g k → H1[q]? = H[q]?) : md_I D cs H1 x g i (updA f k j v) := by
  refine ⟨hx_keep h.1 (ho _ (fun e => (hs.2.1 k hk).1 e.symm)), fun a ha => ?_⟩
  by_cases hak : a = k
  · subst hak
    rw [show updA f a j v a = upd (f a) j v from if_pos rfl]
    exact hat
  · rw [show updA f k j v a = f a from if_neg hak]
    exact hx_keep (h.2 a ha) (ho _ (fun e => hak (hs.2.2 a k ha hk e)))
theorem updA_self (f : Nat → Nat → Int32) (k j : Nat) (v : Int32) : updA f k j v k = upd (f k) j v := if_pos rfl
theorem updA_ne {f : Nat → Nat → Int32} {k j a : Nat} {v : Int32} (h : a ≠ k) : updA f k j v a = f a := if_neg h
theorem upd_ne {f : Nat → Int32} {k j : Nat} {v : Int32} (h : j ≠ k) : upd f k v j = f j := if_neg h
theorem upd_self {f : Nat → Int32} {k : Nat} {v : Int32} : upd f k v k = v := if_pos rfl
end
section
def y_Md_thrown : MethodName := ⟨"NameMergesModel", "thrown", "()I"⟩
abbrev w_Md_thrown : List Cond := Cond.code y_Md_thrown prog_7_method_2_code 1 (Option.some Jvm.ClassFile.FieldType.int) :: gw
theorem d_Md_thrown_0 : decode prog_7_method_2_code 0 = .ok (.aload_n 0, 1) := by decide +kernel
theorem d_Md_thrown_1 : decode prog_7_method_2_code 1 = .ok (.getfield 77, 3) := by decide +kernel
theorem d_Md_thrown_4 : decode prog_7_method_2_code 4 = .ok (.ireturn, 1) := by decide +kernel
set_option maxHeartbeats 4000000 in
set_option maxRecDepth 100000 in
theorem c_Md_thrown (l : Launch) (D : va_G) (cs : Nat → ClassId) (N0 : Nat) (H : Heap) (x : Nat) (g : Nat → Nat) (i : Nat → Int32) (f : Nat → Nat → Int32) (hsep : md_sep N0 x g) (hI : md_I D cs H x g i f) : Met l y_Md_thrown w_Md_thrown ({ frames := 0, cells := 0, slots := 0, locals := 0 }) (hPre D cs N0 [.ref x] H) (hQi (fun r H' => md_I D cs H' x g i f ∧ r = i 0) (md_A x g)) 0 0 (md_A x g) := by
  refine Met.ofW (cc := prog_7_method_2_code) (maxL := 1) (ret := (Option.some Jvm.ClassFile.FieldType.int)) (by decide) rfl ?_
  intro p e s m args below meth c s₁ B hml hv
  obtain ⟨rfl, rfl, hB⟩ := hv
  have hx := B.exec
  have hb := B.bytes
  have hr := B.returns
  have hts := atoms_spec (ws := w_Md_thrown) B.pre
  have htg : ∀ w ∈ gw, w.before _ s = true := fun w h => hts w (List.mem_cons_of_mem _ h)
  have hown : s.vm.findClass "NameMergesModel" = some m.cls := findClass_of_methodNamed B.named
  have hlocks := B.notSynchronized
  have hK := hB.1
  have hS : va_S (md_A x g) s.heap s.heap [] := va_S.rf
  obtain ⟨H, hH⟩ : ∃ z : Heap, z = s.heap := ⟨_, rfl⟩
  rw [← hH] at hI
  have hS : va_S (md_A x g) s.heap H [] := by rw [hH]; exact va_S.rf
  have hl := lv_entry ([.ref x]) (n := 1) (Nat.le_of_ble_eq_true rfl)
  rw [lg_entry_eq, ← hH]
  generalize (lg_sl ([.ref x]) ++ List.replicate (1 - (lg_sl ([.ref x])).length) Slot.unset).toArray = ls at hl ⊢
  have hl : lv_has ls 1 [(0, .ref x)] := hl
  refine lv_aload_n hx hb d_Md_thrown_0 rfl (lv_at hl 0 rfl) ?_
  refine hx_get (v := .int (i 0)) hx hb htg iMd hown hK hI.1 rfl 0 (by decide) (htg _ (gw_mem (i := 998) (by decide +kernel) rfl)) (fun _ h9 => h9) rfl d_Md_thrown_1 ?_
  exact W.iret (v := (i 0)) hx hb hr (fun t ht hW => ⟨⟨(i 0), H, rfl, ⟨hI, rfl⟩, ht⟩, hS.F ht⟩) hS.2.2 d_Md_thrown_4
def bI (b : Bool) : Int32 := if b = true then 1 else 0
def goV (a b c : Bool) : Int32 := if a = true then (if b = true then (if c = true then 0 else 3) else 2) else 1
def goB (a b c : Bool) : Bool := a && b && c
theorem bI_0 {b : Bool} (h : bI b = 0) : b = false := by cases b <;> first | rfl | exact absurd h (by decide)
theorem bI_1 {b : Bool} (h : ¬ bI b = 0) : b = true := by cases b <;> first | rfl | exact absurd rfl h
theorem bI_z (b : Bool) : narrow .boolean (.int (bI b)) = .int (bI b) := by cases b <;> decide

def y_Md_goes : MethodName := ⟨"NameMergesModel", "goes", "(ZZZ)Z"⟩
abbrev w_Md_goes : List Cond := Cond.code y_Md_goes prog_7_method_3_code 4 (Option.some Jvm.ClassFile.FieldType.boolean) :: gw
theorem d_Md_goes_0 : decode prog_7_method_3_code 0 = .ok (.aload_n 0, 1) := by decide +kernel
theorem d_Md_goes_1 : decode prog_7_method_3_code 1 = .ok (.iload_n 1, 1) := by decide +kernel
theorem d_Md_goes_2 : decode prog_7_method_3_code 2 = .ok (.ifCond .ne 7, 3) := by decide +kernel
theorem d_Md_goes_5 : decode prog_7_method_3_code 5 = .ok (.iconst 1, 1) := by decide +kernel
theorem d_Md_goes_6 : decode prog_7_method_3_code 6 = .ok (.goto 20, 3) := by decide +kernel
theorem d_Md_goes_9 : decode prog_7_method_3_code 9 = .ok (.iload_n 2, 1) := by decide +kernel
theorem d_Md_goes_10 : decode prog_7_method_3_code 10 = .ok (.ifCond .ne 7, 3) := by decide +kernel
theorem d_Md_goes_13 : decode prog_7_method_3_code 13 = .ok (.iconst 2, 1) := by decide +kernel
theorem d_Md_goes_14 : decode prog_7_method_3_code 14 = .ok (.goto 12, 3) := by decide +kernel
theorem d_Md_goes_17 : decode prog_7_method_3_code 17 = .ok (.iload_n 3, 1) := by decide +kernel
theorem d_Md_goes_18 : decode prog_7_method_3_code 18 = .ok (.ifCond .ne 7, 3) := by decide +kernel
theorem d_Md_goes_21 : decode prog_7_method_3_code 21 = .ok (.iconst 3, 1) := by decide +kernel
theorem d_Md_goes_22 : decode prog_7_method_3_code 22 = .ok (.goto 4, 3) := by decide +kernel
theorem d_Md_goes_25 : decode prog_7_method_3_code 25 = .ok (.iconst 0, 1) := by decide +kernel
theorem d_Md_goes_26 : decode prog_7_method_3_code 26 = .ok (.putfield 77, 3) := by decide +kernel
theorem d_Md_goes_29 : decode prog_7_method_3_code 29 = .ok (.aload_n 0, 1) := by decide +kernel
theorem d_Md_goes_30 : decode prog_7_method_3_code 30 = .ok (.getfield 77, 3) := by decide +kernel
theorem d_Md_goes_33 : decode prog_7_method_3_code 33 = .ok (.ifCond .ne 7, 3) := by decide +kernel
theorem d_Md_goes_36 : decode prog_7_method_3_code 36 = .ok (.iconst 1, 1) := by decide +kernel
theorem d_Md_goes_37 : decode prog_7_method_3_code 37 = .ok (.goto 4, 3) := by decide +kernel
theorem d_Md_goes_40 : decode prog_7_method_3_code 40 = .ok (.iconst 0, 1) := by decide +kernel
theorem d_Md_goes_41 : decode prog_7_method_3_code 41 = .ok (.ireturn, 1) := by decide +kernel
set_option maxHeartbeats 4000000 in
set_option maxRecDepth 100000 in
theorem c_Md_goes (l : Launch) (D : va_G) (cs : Nat → ClassId) (N0 : Nat) (H : Heap) (x : Nat) (g : Nat → Nat) (i : Nat → Int32) (f : Nat → Nat → Int32) (b1 b2 b3 : Bool) (hsep : md_sep N0 x g) (hI : md_I D cs H x g i f) : Met l y_Md_goes w_Md_goes ({ frames := 0, cells := 0, slots := 0, locals := 0 }) (hPre D cs N0 [.ref x, .int (bI b1), .int (bI b2), .int (bI b3)] H) (hQi (fun r H' => md_I D cs H' x g (upd i 0 (goV b1 b2 b3)) f ∧ r = bI (goB b1 b2 b3)) (md_A x g)) 0 0 (md_A x g) := by
  refine Met.ofW (cc := prog_7_method_3_code) (maxL := 4) (ret := (Option.some Jvm.ClassFile.FieldType.boolean)) (by decide) rfl ?_
  intro p e s m args below meth c s₁ B hml hv
  obtain ⟨rfl, rfl, hB⟩ := hv
  have hx := B.exec
  have hb := B.bytes
  have hr := B.returns
  have hts := atoms_spec (ws := w_Md_goes) B.pre
  have htg : ∀ w ∈ gw, w.before _ s = true := fun w h => hts w (List.mem_cons_of_mem _ h)
  have hown : s.vm.findClass "NameMergesModel" = some m.cls := findClass_of_methodNamed B.named
  have hlocks := B.notSynchronized
  have hK := hB.1
  have hS : va_S (md_A x g) s.heap s.heap [] := va_S.rf
  obtain ⟨H, hH⟩ : ∃ z : Heap, z = s.heap := ⟨_, rfl⟩
  rw [← hH] at hI
  have hS : va_S (md_A x g) s.heap H [] := by rw [hH]; exact va_S.rf
  have hl := lv_entry ([.ref x, .int (bI b1), .int (bI b2), .int (bI b3)]) (n := 4) (Nat.le_of_ble_eq_true rfl)
  rw [lg_entry_eq, ← hH]
  generalize (lg_sl ([.ref x, .int (bI b1), .int (bI b2), .int (bI b3)]) ++ List.replicate (4 - (lg_sl ([.ref x, .int (bI b1), .int (bI b2), .int (bI b3)])).length) Slot.unset).toArray = ls at hl ⊢
  have hl : lv_has ls 4 [(0, .ref x), (1, .int (bI b1)), (2, .int (bI b2)), (3, .int (bI b3))] := hl
  refine lv_aload_n hx hb d_Md_goes_0 rfl (lv_at hl 0 rfl) ?_
  refine lv_iload_n hx hb d_Md_goes_1 rfl (lv_at hl 1 rfl) ?_
  refine lv_if_ne (x := (bI b1)) (tgt := 9) hx hb d_Md_goes_2 (by decide) (fun c2 => ?_) (fun c2 => ?_)
  · skip
    replace c2 : b1 = true := bI_1 c2
    subst c2
    refine lv_iload_n hx hb d_Md_goes_9 rfl (lv_at hl 2 rfl) ?_
    refine lv_if_ne (x := (bI b2)) (tgt := 17) hx hb d_Md_goes_10 (by decide) (fun c10 => ?_) (fun c10 => ?_)
    · skip
      replace c10 : b2 = true := bI_1 c10
      subst c10
      refine lv_iload_n hx hb d_Md_goes_17 rfl (lv_at hl 3 rfl) ?_
      refine lv_if_ne (x := (bI b3)) (tgt := 25) hx hb d_Md_goes_18 (by decide) (fun c18 => ?_) (fun c18 => ?_)
      · skip
        replace c18 : b3 = true := bI_1 c18
        subst c18
        refine lv_iconst (v := 0) hx hb d_Md_goes_25 (by decide) ?_
        refine hx_put (ty := .int) (v := .int 0) hx hb htg iMd tMd tMd_ok nMd hown hK hI.1 hS (Or.inl rfl) rfl 0 (by decide) (htg _ (gw_mem (i := 998) (by decide +kernel) rfl)) (fun _ h9 => h9) rfl (by decide +kernel) rfl rfl (Nat.le_of_ble_eq_true rfl) d_Md_goes_26 (fun H locs hat hz ho hS => ?_)
        replace hI : md_I D cs H x g (upd i 0 (0)) f := md_I.puti hI hsep hat ho rfl
        refine lv_aload_n hx hb d_Md_goes_29 rfl (lv_at hl 0 rfl) ?_
        refine hx_get (v := .int 0) hx hb htg iMd hown hK hI.1 rfl 0 (by decide) (htg _ (gw_mem (i := 998) (by decide +kernel) rfl)) (fun _ h9 => h9) rfl d_Md_goes_30 ?_
        refine lv_if_ne (x := 0) (tgt := 40) hx hb d_Md_goes_33 (by decide) (fun c33 => ?_) (fun c33 => ?_)
        · exact absurd c33 (by decide)
        · skip
          refine lv_iconst (v := 1) hx hb d_Md_goes_36 (by decide) ?_
          refine lv_goto (tgt := 41) hx hb d_Md_goes_37 (by decide) ?_
          exact W.zret (v := 1) hx hb hr (by decide) (fun t ht hW => ⟨⟨1, H, rfl, ⟨hI, rfl⟩, ht⟩, hS.F ht⟩) hS.2.2 d_Md_goes_41
      · skip
        replace c18 : b3 = false := bI_0 c18
        subst c18
        refine lv_iconst (v := 3) hx hb d_Md_goes_21 (by decide) ?_
        refine lv_goto (tgt := 26) hx hb d_Md_goes_22 (by decide) ?_
        refine hx_put (ty := .int) (v := .int 3) hx hb htg iMd tMd tMd_ok nMd hown hK hI.1 hS (Or.inl rfl) rfl 0 (by decide) (htg _ (gw_mem (i := 998) (by decide +kernel) rfl)) (fun _ h9 => h9) rfl (by decide +kernel) rfl rfl (Nat.le_of_ble_eq_true rfl) d_Md_goes_26 (fun H locs hat hz ho hS => ?_)
        replace hI : md_I D cs H x g (upd i 0 (3)) f := md_I.puti hI hsep hat ho rfl
        refine lv_aload_n hx hb d_Md_goes_29 rfl (lv_at hl 0 rfl) ?_
        refine hx_get (v := .int 3) hx hb htg iMd hown hK hI.1 rfl 0 (by decide) (htg _ (gw_mem (i := 998) (by decide +kernel) rfl)) (fun _ h9 => h9) rfl d_Md_goes_30 ?_
        refine lv_if_ne (x := 3) (tgt := 40) hx hb d_Md_goes_33 (by decide) (fun c33 => ?_) (fun c33 => ?_)
        · skip
          refine lv_iconst (v := 0) hx hb d_Md_goes_40 (by decide) ?_
          exact W.zret (v := 0) hx hb hr (by decide) (fun t ht hW => ⟨⟨0, H, rfl, ⟨hI, rfl⟩, ht⟩, hS.F ht⟩) hS.2.2 d_Md_goes_41
        · exact absurd c33 (by decide)
    · skip
      replace c10 : b2 = false := bI_0 c10
      subst c10
      refine lv_iconst (v := 2) hx hb d_Md_goes_13 (by decide) ?_
      refine lv_goto (tgt := 26) hx hb d_Md_goes_14 (by decide) ?_
      refine hx_put (ty := .int) (v := .int 2) hx hb htg iMd tMd tMd_ok nMd hown hK hI.1 hS (Or.inl rfl) rfl 0 (by decide) (htg _ (gw_mem (i := 998) (by decide +kernel) rfl)) (fun _ h9 => h9) rfl (by decide +kernel) rfl rfl (Nat.le_of_ble_eq_true rfl) d_Md_goes_26 (fun H locs hat hz ho hS => ?_)
      replace hI : md_I D cs H x g (upd i 0 (2)) f := md_I.puti hI hsep hat ho rfl
      refine lv_aload_n hx hb d_Md_goes_29 rfl (lv_at hl 0 rfl) ?_
      refine hx_get (v := .int 2) hx hb htg iMd hown hK hI.1 rfl 0 (by decide) (htg _ (gw_mem (i := 998) (by decide +kernel) rfl)) (fun _ h9 => h9) rfl d_Md_goes_30 ?_
      refine lv_if_ne (x := 2) (tgt := 40) hx hb d_Md_goes_33 (by decide) (fun c33 => ?_) (fun c33 => ?_)
      · skip
        refine lv_iconst (v := 0) hx hb d_Md_goes_40 (by decide) ?_
        exact W.zret (v := 0) hx hb hr (by decide) (fun t ht hW => ⟨⟨0, H, rfl, ⟨hI, rfl⟩, ht⟩, hS.F ht⟩) hS.2.2 d_Md_goes_41
      · exact absurd c33 (by decide)
  · skip
    replace c2 : b1 = false := bI_0 c2
    subst c2
    refine lv_iconst (v := 1) hx hb d_Md_goes_5 (by decide) ?_
    refine lv_goto (tgt := 26) hx hb d_Md_goes_6 (by decide) ?_
    refine hx_put (ty := .int) (v := .int 1) hx hb htg iMd tMd tMd_ok nMd hown hK hI.1 hS (Or.inl rfl) rfl 0 (by decide) (htg _ (gw_mem (i := 998) (by decide +kernel) rfl)) (fun _ h9 => h9) rfl (by decide +kernel) rfl rfl (Nat.le_of_ble_eq_true rfl) d_Md_goes_26 (fun H locs hat hz ho hS => ?_)
    replace hI : md_I D cs H x g (upd i 0 (1)) f := md_I.puti hI hsep hat ho rfl
    refine lv_aload_n hx hb d_Md_goes_29 rfl (lv_at hl 0 rfl) ?_
    refine hx_get (v := .int 1) hx hb htg iMd hown hK hI.1 rfl 0 (by decide) (htg _ (gw_mem (i := 998) (by decide +kernel) rfl)) (fun _ h9 => h9) rfl d_Md_goes_30 ?_
    refine lv_if_ne (x := 1) (tgt := 40) hx hb d_Md_goes_33 (by decide) (fun c33 => ?_) (fun c33 => ?_)
    · skip
      refine lv_iconst (v := 0) hx hb d_Md_goes_40 (by decide) ?_
      exact W.zret (v := 0) hx hb hr (by decide) (fun t ht hW => ⟨⟨0, H, rfl, ⟨hI, rfl⟩, ht⟩, hS.F ht⟩) hS.2.2 d_Md_goes_41
    · exact absurd c33 (by decide)
def isN (n : Nat) (q : Int32) : Bool := !decide (q < 0) && !decide (nI n ≤ q)
def isD (q : Int32) : Bool := !decide (q < 0) && !decide (100000 < q)
def isSt (q : Int32) : Bool := !decide (q < 0) && !decide (4 ≤ q)
def y_Md_isName : MethodName := ⟨"NameMergesModel", "isName", "(I)Z"⟩
abbrev w_Md_isName : List Cond := Cond.code y_Md_isName prog_7_method_4_code 2 (Option.some Jvm.ClassFile.FieldType.boolean) :: gw
theorem d_Md_isName_0 : decode prog_7_method_4_code 0 = .ok (.iload_n 1, 1) := by decide +kernel
theorem d_Md_isName_1 : decode prog_7_method_4_code 1 = .ok (.ifCond .lt 15, 3) := by decide +kernel
theorem d_Md_isName_4 : decode prog_7_method_4_code 4 = .ok (.iload_n 1, 1) := by decide +kernel
theorem d_Md_isName_5 : decode prog_7_method_4_code 5 = .ok (.aload_n 0, 1) := by decide +kernel
theorem d_Md_isName_6 : decode prog_7_method_4_code 6 = .ok (.getfield 81, 3) := by decide +kernel
theorem d_Md_isName_9 : decode prog_7_method_4_code 9 = .ok (.if_icmp .ge 7, 3) := by decide +kernel
theorem d_Md_isName_12 : decode prog_7_method_4_code 12 = .ok (.iconst 1, 1) := by decide +kernel
theorem d_Md_isName_13 : decode prog_7_method_4_code 13 = .ok (.goto 4, 3) := by decide +kernel
theorem d_Md_isName_16 : decode prog_7_method_4_code 16 = .ok (.iconst 0, 1) := by decide +kernel
theorem d_Md_isName_17 : decode prog_7_method_4_code 17 = .ok (.ireturn, 1) := by decide +kernel
set_option maxHeartbeats 4000000 in
set_option maxRecDepth 100000 in
theorem c_Md_isName (l : Launch) (D : va_G) (cs : Nat → ClassId) (N0 : Nat) (H : Heap) (x : Nat) (g : Nat → Nat) (i : Nat → Int32) (f : Nat → Nat → Int32) (q : Int32) (hsep : md_sep N0 x g) (hI : md_I D cs H x g i f) (n : Nat) (hn : i 2 = nI n) : Met l y_Md_isName w_Md_isName ({ frames := 0, cells := 0, slots := 0, locals := 0 }) (hPre D cs N0 [.ref x, .int q] H) (hQi (fun r H' => md_I D cs H' x g i f ∧ r = bI (isN n q)) (md_A x g)) 0 0 (md_A x g) := by
  refine Met.ofW (cc := prog_7_method_4_code) (maxL := 2) (ret := (Option.some Jvm.ClassFile.FieldType.boolean)) (by decide) rfl ?_
  intro p e s m args below meth c s₁ B hml hv
  obtain ⟨rfl, rfl, hB⟩ := hv
  have hx := B.exec
  have hb := B.bytes
  have hr := B.returns
  have hts := atoms_spec (ws := w_Md_isName) B.pre
  have htg : ∀ w ∈ gw, w.before _ s = true := fun w h => hts w (List.mem_cons_of_mem _ h)
  have hown : s.vm.findClass "NameMergesModel" = some m.cls := findClass_of_methodNamed B.named
  have hlocks := B.notSynchronized
  have hK := hB.1
  have hS : va_S (md_A x g) s.heap s.heap [] := va_S.rf
  obtain ⟨H, hH⟩ : ∃ z : Heap, z = s.heap := ⟨_, rfl⟩
  rw [← hH] at hI
  have hS : va_S (md_A x g) s.heap H [] := by rw [hH]; exact va_S.rf
  have hl := lv_entry ([.ref x, .int q]) (n := 2) (Nat.le_of_ble_eq_true rfl)
  rw [lg_entry_eq, ← hH]
  generalize (lg_sl ([.ref x, .int q]) ++ List.replicate (2 - (lg_sl ([.ref x, .int q])).length) Slot.unset).toArray = ls at hl ⊢
  have hl : lv_has ls 2 [(0, .ref x), (1, .int q)] := hl
  refine lv_iload_n hx hb d_Md_isName_0 rfl (lv_at hl 1 rfl) ?_
  refine lv_if_lt (x := q) (tgt := 16) hx hb d_Md_isName_1 (by decide) (fun c1 => ?_) (fun c1 => ?_)
  · skip
    refine lv_iconst (v := 0) hx hb d_Md_isName_16 (by decide) ?_
    exact W.zret (v := 0) hx hb hr (by decide) (fun t ht hW => ⟨⟨0, H, rfl, ⟨hI, by simp [isN, bI, c1]⟩, ht⟩, hS.F ht⟩) hS.2.2 d_Md_isName_17
  · skip
    refine lv_iload_n hx hb d_Md_isName_4 rfl (lv_at hl 1 rfl) ?_
    refine lv_aload_n hx hb d_Md_isName_5 rfl (lv_at hl 0 rfl) ?_
    refine hx_get (v := .int (i 2)) hx hb htg iMd hown hK hI.1 rfl 3 (by decide) (htg _ (gw_mem (i := 1001) (by decide +kernel) rfl)) (fun _ h9 => h9) rfl d_Md_isName_6 ?_
    refine lv_eqi (y := (nI n)) hn ?_
    refine lv_icmp_ge (x := q) (y := (nI n)) (tgt := 16) hx hb d_Md_isName_9 (by decide) (fun c9 => ?_) (fun c9 => ?_)
    · skip
      refine lv_iconst (v := 0) hx hb d_Md_isName_16 (by decide) ?_
      exact W.zret (v := 0) hx hb hr (by decide) (fun t ht hW => ⟨⟨0, H, rfl, ⟨hI, by simp [isN, bI, c1, c9]⟩, ht⟩, hS.F ht⟩) hS.2.2 d_Md_isName_17
    · skip
      refine lv_iconst (v := 1) hx hb d_Md_isName_12 (by decide) ?_
      refine lv_goto (tgt := 17) hx hb d_Md_isName_13 (by decide) ?_
      exact W.zret (v := 1) hx hb hr (by decide) (fun t ht hW => ⟨⟨1, H, rfl, ⟨hI, by simp [isN, bI, c1, c9]⟩, ht⟩, hS.F ht⟩) hS.2.2 d_Md_isName_17
def y_Md_isDay : MethodName := ⟨"NameMergesModel", "isDay", "(I)Z"⟩
abbrev w_Md_isDay : List Cond := Cond.code y_Md_isDay prog_7_method_5_code 1 (Option.some Jvm.ClassFile.FieldType.boolean) :: gw
theorem d_Md_isDay_0 : decode prog_7_method_5_code 0 = .ok (.iload_n 0, 1) := by decide +kernel
theorem d_Md_isDay_1 : decode prog_7_method_5_code 1 = .ok (.ifCond .lt 13, 3) := by decide +kernel
theorem d_Md_isDay_4 : decode prog_7_method_5_code 4 = .ok (.iload_n 0, 1) := by decide +kernel
theorem d_Md_isDay_5 : decode prog_7_method_5_code 5 = .ok (.ldc 84, 2) := by decide +kernel
theorem d_Md_isDay_7 : decode prog_7_method_5_code 7 = .ok (.if_icmp .gt 7, 3) := by decide +kernel
theorem d_Md_isDay_10 : decode prog_7_method_5_code 10 = .ok (.iconst 1, 1) := by decide +kernel
theorem d_Md_isDay_11 : decode prog_7_method_5_code 11 = .ok (.goto 4, 3) := by decide +kernel
theorem d_Md_isDay_14 : decode prog_7_method_5_code 14 = .ok (.iconst 0, 1) := by decide +kernel
theorem d_Md_isDay_15 : decode prog_7_method_5_code 15 = .ok (.ireturn, 1) := by decide +kernel
set_option maxHeartbeats 4000000 in
set_option maxRecDepth 100000 in
theorem c_Md_isDay (l : Launch) (D : va_G) (cs : Nat → ClassId) (N0 : Nat) (H : Heap) (x : Nat) (g : Nat → Nat) (i : Nat → Int32) (f : Nat → Nat → Int32) (q : Int32) (hsep : md_sep N0 x g) (hI : md_I D cs H x g i f) : Met l y_Md_isDay w_Md_isDay ({ frames := 0, cells := 0, slots := 0, locals := 0 }) (hPre D cs N0 [.int q] H) (hQi (fun r H' => md_I D cs H' x g i f ∧ r = bI (isD q)) (md_A x g)) 0 0 (md_A x g) := by
  refine Met.ofW (cc := prog_7_method_5_code) (maxL := 1) (ret := (Option.some Jvm.ClassFile.FieldType.boolean)) (by decide) rfl ?_
  intro p e s m args below meth c s₁ B hml hv
  obtain ⟨rfl, rfl, hB⟩ := hv
  have hx := B.exec
  have hb := B.bytes
  have hr := B.returns
  have hts := atoms_spec (ws := w_Md_isDay) B.pre
  have htg : ∀ w ∈ gw, w.before _ s = true := fun w h => hts w (List.mem_cons_of_mem _ h)
  have hown : s.vm.findClass "NameMergesModel" = some m.cls := findClass_of_methodNamed B.named
  have hlocks := B.notSynchronized
  have hK := hB.1
  have hS : va_S (md_A x g) s.heap s.heap [] := va_S.rf
  obtain ⟨H, hH⟩ : ∃ z : Heap, z = s.heap := ⟨_, rfl⟩
  rw [← hH] at hI
  have hS : va_S (md_A x g) s.heap H [] := by rw [hH]; exact va_S.rf
  have hl := lv_entry ([.int q]) (n := 1) (Nat.le_of_ble_eq_true rfl)
  rw [lg_entry_eq, ← hH]
  generalize (lg_sl ([.int q]) ++ List.replicate (1 - (lg_sl ([.int q])).length) Slot.unset).toArray = ls at hl ⊢
  have hl : lv_has ls 1 [(0, .int q)] := hl
  refine lv_iload_n hx hb d_Md_isDay_0 rfl (lv_at hl 0 rfl) ?_
  refine lv_if_lt (x := q) (tgt := 14) hx hb d_Md_isDay_1 (by decide) (fun c1 => ?_) (fun c1 => ?_)
  · skip
    refine lv_iconst (v := 0) hx hb d_Md_isDay_14 (by decide) ?_
    exact W.zret (v := 0) hx hb hr (by decide) (fun t ht hW => ⟨⟨0, H, rfl, ⟨hI, by simp [isD, bI, c1]⟩, ht⟩, hS.F ht⟩) hS.2.2 d_Md_isDay_15
  · skip
    refine lv_iload_n hx hb d_Md_isDay_4 rfl (lv_at hl 0 rfl) ?_
    refine lv_ldc (v := 100000) hx hb hown (htg _ (gw_mem (i := 1115) (by decide +kernel) rfl)) d_Md_isDay_5 ?_
    refine lv_icmp_gt (x := q) (y := 100000) (tgt := 14) hx hb d_Md_isDay_7 (by decide) (fun c7 => ?_) (fun c7 => ?_)
    · skip
      refine lv_iconst (v := 0) hx hb d_Md_isDay_14 (by decide) ?_
      exact W.zret (v := 0) hx hb hr (by decide) (fun t ht hW => ⟨⟨0, H, rfl, ⟨hI, by simp [isD, bI, c1, c7]⟩, ht⟩, hS.F ht⟩) hS.2.2 d_Md_isDay_15
    · skip
      refine lv_iconst (v := 1) hx hb d_Md_isDay_10 (by decide) ?_
      refine lv_goto (tgt := 15) hx hb d_Md_isDay_11 (by decide) ?_
      exact W.zret (v := 1) hx hb hr (by decide) (fun t ht hW => ⟨⟨1, H, rfl, ⟨hI, by simp [isD, bI, c1, c7]⟩, ht⟩, hS.F ht⟩) hS.2.2 d_Md_isDay_15
def y_Md_isSet : MethodName := ⟨"NameMergesModel", "isSet", "(I)Z"⟩
abbrev w_Md_isSet : List Cond := Cond.code y_Md_isSet prog_7_method_32_code 1 (Option.some Jvm.ClassFile.FieldType.boolean) :: gw
theorem d_Md_isSet_0 : decode prog_7_method_32_code 0 = .ok (.iload_n 0, 1) := by decide +kernel
theorem d_Md_isSet_1 : decode prog_7_method_32_code 1 = .ok (.ifCond .lt 12, 3) := by decide +kernel
theorem d_Md_isSet_4 : decode prog_7_method_32_code 4 = .ok (.iload_n 0, 1) := by decide +kernel
theorem d_Md_isSet_5 : decode prog_7_method_32_code 5 = .ok (.iconst 4, 1) := by decide +kernel
theorem d_Md_isSet_6 : decode prog_7_method_32_code 6 = .ok (.if_icmp .ge 7, 3) := by decide +kernel
theorem d_Md_isSet_9 : decode prog_7_method_32_code 9 = .ok (.iconst 1, 1) := by decide +kernel
theorem d_Md_isSet_10 : decode prog_7_method_32_code 10 = .ok (.goto 4, 3) := by decide +kernel
theorem d_Md_isSet_13 : decode prog_7_method_32_code 13 = .ok (.iconst 0, 1) := by decide +kernel
theorem d_Md_isSet_14 : decode prog_7_method_32_code 14 = .ok (.ireturn, 1) := by decide +kernel
set_option maxHeartbeats 4000000 in
set_option maxRecDepth 100000 in
theorem c_Md_isSet (l : Launch) (D : va_G) (cs : Nat → ClassId) (N0 : Nat) (H : Heap) (x : Nat) (g : Nat → Nat) (i : Nat → Int32) (f : Nat → Nat → Int32) (q : Int32) (hsep : md_sep N0 x g) (hI : md_I D cs H x g i f) : Met l y_Md_isSet w_Md_isSet ({ frames := 0, cells := 0, slots := 0, locals := 0 }) (hPre D cs N0 [.int q] H) (hQi (fun r H' => md_I D cs H' x g i f ∧ r = bI (isSt q)) (md_A x g)) 0 0 (md_A x g) := by
  refine Met.ofW (cc := prog_7_method_32_code) (maxL := 1) (ret := (Option.some Jvm.ClassFile.FieldType.boolean)) (by decide) rfl ?_
  intro p e s m args below meth c s₁ B hml hv
  obtain ⟨rfl, rfl, hB⟩ := hv
  have hx := B.exec
  have hb := B.bytes
  have hr := B.returns
  have hts := atoms_spec (ws := w_Md_isSet) B.pre
  have htg : ∀ w ∈ gw, w.before _ s = true := fun w h => hts w (List.mem_cons_of_mem _ h)
  have hown : s.vm.findClass "NameMergesModel" = some m.cls := findClass_of_methodNamed B.named
  have hlocks := B.notSynchronized
  have hK := hB.1
  have hS : va_S (md_A x g) s.heap s.heap [] := va_S.rf
  obtain ⟨H, hH⟩ : ∃ z : Heap, z = s.heap := ⟨_, rfl⟩
  rw [← hH] at hI
  have hS : va_S (md_A x g) s.heap H [] := by rw [hH]; exact va_S.rf
  have hl := lv_entry ([.int q]) (n := 1) (Nat.le_of_ble_eq_true rfl)
  rw [lg_entry_eq, ← hH]
  generalize (lg_sl ([.int q]) ++ List.replicate (1 - (lg_sl ([.int q])).length) Slot.unset).toArray = ls at hl ⊢
  have hl : lv_has ls 1 [(0, .int q)] := hl
  refine lv_iload_n hx hb d_Md_isSet_0 rfl (lv_at hl 0 rfl) ?_
  refine lv_if_lt (x := q) (tgt := 13) hx hb d_Md_isSet_1 (by decide) (fun c1 => ?_) (fun c1 => ?_)
  · skip
    refine lv_iconst (v := 0) hx hb d_Md_isSet_13 (by decide) ?_
    exact W.zret (v := 0) hx hb hr (by decide) (fun t ht hW => ⟨⟨0, H, rfl, ⟨hI, by simp [isSt, bI, c1]⟩, ht⟩, hS.F ht⟩) hS.2.2 d_Md_isSet_14
  · skip
    refine lv_iload_n hx hb d_Md_isSet_4 rfl (lv_at hl 0 rfl) ?_
    refine lv_iconst (v := 4) hx hb d_Md_isSet_5 (by decide) ?_
    refine lv_icmp_ge (x := q) (y := 4) (tgt := 13) hx hb d_Md_isSet_6 (by decide) (fun c6 => ?_) (fun c6 => ?_)
    · skip
      refine lv_iconst (v := 0) hx hb d_Md_isSet_13 (by decide) ?_
      exact W.zret (v := 0) hx hb hr (by decide) (fun t ht hW => ⟨⟨0, H, rfl, ⟨hI, by simp [isSt, bI, c1, c6]⟩, ht⟩, hS.F ht⟩) hS.2.2 d_Md_isSet_14
    · skip
      refine lv_iconst (v := 1) hx hb d_Md_isSet_9 (by decide) ?_
      refine lv_goto (tgt := 14) hx hb d_Md_isSet_10 (by decide) ?_
      exact W.zret (v := 1) hx hb hr (by decide) (fun t ht hW => ⟨⟨1, H, rfl, ⟨hI, by simp [isSt, bI, c1, c6]⟩, ht⟩, hS.F ht⟩) hS.2.2 d_Md_isSet_14
def isSg (q : Int32) : Bool := !decide (q < 97) && !decide (122 < q)
def y_Md_unit : MethodName := ⟨"NameMergesModel", "unit", "(I)I"⟩
abbrev w_Md_unit : List Cond := Cond.code y_Md_unit prog_7_method_6_code 2 (Option.some Jvm.ClassFile.FieldType.int) :: gw
theorem d_Md_unit_0 : decode prog_7_method_6_code 0 = .ok (.aload_n 0, 1) := by decide +kernel
theorem d_Md_unit_1 : decode prog_7_method_6_code 1 = .ok (.aload_n 0, 1) := by decide +kernel
theorem d_Md_unit_2 : decode prog_7_method_6_code 2 = .ok (.getfield 85, 3) := by decide +kernel
theorem d_Md_unit_5 : decode prog_7_method_6_code 5 = .ok (.bipush 12, 2) := by decide +kernel
theorem d_Md_unit_7 : decode prog_7_method_6_code 7 = .ok (.if_icmp .ge 7, 3) := by decide +kernel
theorem d_Md_unit_10 : decode prog_7_method_6_code 10 = .ok (.iconst 1, 1) := by decide +kernel
theorem d_Md_unit_11 : decode prog_7_method_6_code 11 = .ok (.goto 4, 3) := by decide +kernel
theorem d_Md_unit_14 : decode prog_7_method_6_code 14 = .ok (.iconst 0, 1) := by decide +kernel
theorem d_Md_unit_15 : decode prog_7_method_6_code 15 = .ok (.iload_n 1, 1) := by decide +kernel
theorem d_Md_unit_16 : decode prog_7_method_6_code 16 = .ok (.bipush 97, 2) := by decide +kernel
theorem d_Md_unit_18 : decode prog_7_method_6_code 18 = .ok (.if_icmp .lt 13, 3) := by decide +kernel
theorem d_Md_unit_21 : decode prog_7_method_6_code 21 = .ok (.iload_n 1, 1) := by decide +kernel
theorem d_Md_unit_22 : decode prog_7_method_6_code 22 = .ok (.bipush 122, 2) := by decide +kernel
theorem d_Md_unit_24 : decode prog_7_method_6_code 24 = .ok (.if_icmp .gt 7, 3) := by decide +kernel
theorem d_Md_unit_27 : decode prog_7_method_6_code 27 = .ok (.iconst 1, 1) := by decide +kernel
theorem d_Md_unit_28 : decode prog_7_method_6_code 28 = .ok (.goto 4, 3) := by decide +kernel
theorem d_Md_unit_31 : decode prog_7_method_6_code 31 = .ok (.iconst 0, 1) := by decide +kernel
theorem d_Md_unit_32 : decode prog_7_method_6_code 32 = .ok (.iconst 1, 1) := by decide +kernel
theorem d_Md_unit_33 : decode prog_7_method_6_code 33 = .ok (.invokevirtual 88, 3) := by decide +kernel
theorem d_Md_unit_36 : decode prog_7_method_6_code 36 = .ok (.ifCond .ne 5, 3) := by decide +kernel
theorem d_Md_unit_39 : decode prog_7_method_6_code 39 = .ok (.iconst 0, 1) := by decide +kernel
theorem d_Md_unit_40 : decode prog_7_method_6_code 40 = .ok (.ireturn, 1) := by decide +kernel
theorem d_Md_unit_41 : decode prog_7_method_6_code 41 = .ok (.aload_n 0, 1) := by decide +kernel
theorem d_Md_unit_42 : decode prog_7_method_6_code 42 = .ok (.getfield 7, 3) := by decide +kernel
theorem d_Md_unit_45 : decode prog_7_method_6_code 45 = .ok (.aload_n 0, 1) := by decide +kernel
theorem d_Md_unit_46 : decode prog_7_method_6_code 46 = .ok (.getfield 85, 3) := by decide +kernel
theorem d_Md_unit_49 : decode prog_7_method_6_code 49 = .ok (.iload_n 1, 1) := by decide +kernel
theorem d_Md_unit_50 : decode prog_7_method_6_code 50 = .ok (.iastore, 1) := by decide +kernel
theorem d_Md_unit_51 : decode prog_7_method_6_code 51 = .ok (.aload_n 0, 1) := by decide +kernel
theorem d_Md_unit_52 : decode prog_7_method_6_code 52 = .ok (.dup, 1) := by decide +kernel
theorem d_Md_unit_53 : decode prog_7_method_6_code 53 = .ok (.getfield 85, 3) := by decide +kernel
theorem d_Md_unit_56 : decode prog_7_method_6_code 56 = .ok (.iconst 1, 1) := by decide +kernel
theorem d_Md_unit_57 : decode prog_7_method_6_code 57 = .ok (.iadd, 1) := by decide +kernel
theorem d_Md_unit_58 : decode prog_7_method_6_code 58 = .ok (.putfield 85, 3) := by decide +kernel
theorem d_Md_unit_61 : decode prog_7_method_6_code 61 = .ok (.aload_n 0, 1) := by decide +kernel
theorem d_Md_unit_62 : decode prog_7_method_6_code 62 = .ok (.getfield 85, 3) := by decide +kernel
theorem d_Md_unit_65 : decode prog_7_method_6_code 65 = .ok (.ireturn, 1) := by decide +kernel
set_option maxHeartbeats 4000000 in
set_option maxRecDepth 100000 in
theorem c_Md_unit (l : Launch) (D : va_G) (cs : Nat → ClassId) (N0 : Nat) (H : Heap) (x : Nat) (g : Nat → Nat) (i : Nat → Int32) (f : Nat → Nat → Int32) (q : Int32) (pn : Nat) (hsep : md_sep N0 x g) (hI : md_I D cs H x g i f) (hpn : i 1 = nI pn) (hp12 : pn ≤ 12) : Met l y_Md_unit w_Md_unit ({ frames := 1, cells := 0, slots := 0, locals := 23 }) (hPre D cs N0 [.ref x, .int q] H) (hQi (fun r H' => if goB (decide (pn < 12)) (isSg q) true = true then (md_I D cs H' x g (upd (upd i 0 (goV (decide (pn < 12)) (isSg q) true)) 1 (nI (pn + 1))) (updA f 0 pn q) ∧ r = nI (pn + 1)) else (md_I D cs H' x g (upd i 0 (goV (decide (pn < 12)) (isSg q) true)) f ∧ r = 0)) (md_A x g)) 0 0 (md_A x g) := by
  refine Met.ofW (cc := prog_7_method_6_code) (maxL := 2) (ret := (Option.some Jvm.ClassFile.FieldType.int)) (by decide) rfl ?_
  intro p e s m args below meth c s₁ B hml hv
  obtain ⟨rfl, rfl, hB⟩ := hv
  have hx := B.exec
  have hb := B.bytes
  have hr := B.returns
  have hts := atoms_spec (ws := w_Md_unit) B.pre
  have htg : ∀ w ∈ gw, w.before _ s = true := fun w h => hts w (List.mem_cons_of_mem _ h)
  have hown : s.vm.findClass "NameMergesModel" = some m.cls := findClass_of_methodNamed B.named
  have hlocks := B.notSynchronized
  have hK := hB.1
  have hS : va_S (md_A x g) s.heap s.heap [] := va_S.rf
  obtain ⟨H, hH⟩ : ∃ z : Heap, z = s.heap := ⟨_, rfl⟩
  rw [← hH] at hI
  have hS : va_S (md_A x g) s.heap H [] := by rw [hH]; exact va_S.rf
  have hl := lv_entry ([.ref x, .int q]) (n := 2) (Nat.le_of_ble_eq_true rfl)
  rw [lg_entry_eq, ← hH]
  generalize (lg_sl ([.ref x, .int q]) ++ List.replicate (2 - (lg_sl ([.ref x, .int q])).length) Slot.unset).toArray = ls at hl ⊢
  have hl : lv_has ls 2 [(0, .ref x), (1, .int q)] := hl
  refine lv_aload_n hx hb d_Md_unit_0 rfl (lv_at hl 0 rfl) ?_
  refine lv_aload_n hx hb d_Md_unit_1 rfl (lv_at hl 0 rfl) ?_
  refine hx_get (v := .int (i 1)) hx hb htg iMd hown hK hI.1 rfl 1 (by decide) (htg _ (gw_mem (i := 999) (by decide +kernel) rfl)) (fun _ h9 => h9) rfl d_Md_unit_2 ?_
  refine lv_eqi (y := (nI pn)) hpn ?_
  refine lv_bipush (v := 12) hx hb d_Md_unit_5 (by decide) ?_
  refine lv_icmp_ge (x := (nI pn)) (y := 12) (tgt := 14) hx hb d_Md_unit_7 (by decide) (fun c7 => ?_) (fun c7 => ?_)
  · skip
    replace c7 : 12 ≤ pn := (nI_leI (a := 12) (b := pn) (by omega) (by omega)).mp c7
    refine lv_iconst (v := 0) hx hb d_Md_unit_14 (by decide) ?_
    refine lv_iload_n hx hb d_Md_unit_15 rfl (lv_at hl 1 rfl) ?_
    refine lv_bipush (v := 97) hx hb d_Md_unit_16 (by decide) ?_
    refine lv_icmp_lt (x := q) (y := 97) (tgt := 31) hx hb d_Md_unit_18 (by decide) (fun c18 => ?_) (fun c18 => ?_)
    · skip
      refine lv_iconst (v := 0) hx hb d_Md_unit_31 (by decide) ?_
      refine lv_iconst (v := 1) hx hb d_Md_unit_32 (by decide) ?_
      refine h_calli (va_runV (As := [.int 0, .int 0, .int 1]) (rest := []) ⟨hx, hb, hml, hown, htg⟩ (c_Md_goes l D cs N0 H x g i f false false true hsep hI) (cwV 3 htg (gw_V (gw_mem (i := 1092) (by decide +kernel) rfl) (gw_mem (i := 1094) (by decide +kernel) rfl) (gw_mem (i := 18) (by decide +kernel) rfl) (gw_mem (i := 38) (by decide +kernel) rfl) (gw_mem (i := 1095) (by decide +kernel) rfl)) rfl rfl rfl (by decide +kernel) ⟨Nat.le_of_ble_eq_true rfl, Nat.le_of_ble_eq_true rfl⟩) ⟨hPre.blind, hx_recv hK (ci := 0) rfl hI.1, hPre.at hB hS hsep.A⟩ rfl rfl hl.1 rfl (lv_room (Nat.le_of_ble_eq_true rfl)) d_Md_unit_33 ⟨Nat.zero_le _, Nat.zero_le _⟩) hS (fun _ h => h) (fun r33 H locs hp hz hk hS => ?_)
      obtain ⟨hI, er33⟩ := hp
      replace hI : md_I D cs H x g (upd i 0 1) f := hI
      refine lv_eqi (y := 0) er33 ?_
      refine lv_if_ne (x := 0) (tgt := 41) hx hb d_Md_unit_36 (by decide) (fun c36 => ?_) (fun c36 => ?_)
      · exact absurd c36 (by decide)
      · skip
        refine lv_iconst (v := 0) hx hb d_Md_unit_39 (by decide) ?_
        exact W.iret (v := 0) hx hb hr (fun t ht hW => ⟨⟨0, H, rfl, by dsimp only; have e0 : (decide (pn < 12)) = false := (by first | (simp [isSg, c7, c18]; done) | (simp [isSg, c7, c18]; omega) | omega | simp_all [isSg]); have e1 : (isSg q) = false := (by first | (simp [isSg, c7, c18]; done) | (simp [isSg, c7, c18]; omega) | omega | simp_all [isSg]); rw [e0, e1]; rw [if_neg (show ¬ goB false false true = true by simp [goB])]; exact ⟨hI, rfl⟩, ht⟩, hS.F ht⟩) hS.2.2 d_Md_unit_40
    · skip
      refine lv_iload_n hx hb d_Md_unit_21 rfl (lv_at hl 1 rfl) ?_
      refine lv_bipush (v := 122) hx hb d_Md_unit_22 (by decide) ?_
      refine lv_icmp_gt (x := q) (y := 122) (tgt := 31) hx hb d_Md_unit_24 (by decide) (fun c24 => ?_) (fun c24 => ?_)
      · skip
        refine lv_iconst (v := 0) hx hb d_Md_unit_31 (by decide) ?_
        refine lv_iconst (v := 1) hx hb d_Md_unit_32 (by decide) ?_
        refine h_calli (va_runV (As := [.int 0, .int 0, .int 1]) (rest := []) ⟨hx, hb, hml, hown, htg⟩ (c_Md_goes l D cs N0 H x g i f false false true hsep hI) (cwV 3 htg (gw_V (gw_mem (i := 1092) (by decide +kernel) rfl) (gw_mem (i := 1094) (by decide +kernel) rfl) (gw_mem (i := 18) (by decide +kernel) rfl) (gw_mem (i := 38) (by decide +kernel) rfl) (gw_mem (i := 1095) (by decide +kernel) rfl)) rfl rfl rfl (by decide +kernel) ⟨Nat.le_of_ble_eq_true rfl, Nat.le_of_ble_eq_true rfl⟩) ⟨hPre.blind, hx_recv hK (ci := 0) rfl hI.1, hPre.at hB hS hsep.A⟩ rfl rfl hl.1 rfl (lv_room (Nat.le_of_ble_eq_true rfl)) d_Md_unit_33 ⟨Nat.zero_le _, Nat.zero_le _⟩) hS (fun _ h => h) (fun r33 H locs hp hz hk hS => ?_)
        obtain ⟨hI, er33⟩ := hp
        replace hI : md_I D cs H x g (upd i 0 1) f := hI
        refine lv_eqi (y := 0) er33 ?_
        refine lv_if_ne (x := 0) (tgt := 41) hx hb d_Md_unit_36 (by decide) (fun c36 => ?_) (fun c36 => ?_)
        · exact absurd c36 (by decide)
        · skip
          refine lv_iconst (v := 0) hx hb d_Md_unit_39 (by decide) ?_
          exact W.iret (v := 0) hx hb hr (fun t ht hW => ⟨⟨0, H, rfl, by dsimp only; have e0 : (decide (pn < 12)) = false := (by first | (simp [isSg, c7, c18, c24]; done) | (simp [isSg, c7, c18, c24]; omega) | omega | simp_all [isSg]); have e1 : (isSg q) = false := (by first | (simp [isSg, c7, c18, c24]; done) | (simp [isSg, c7, c18, c24]; omega) | omega | simp_all [isSg]); rw [e0, e1]; rw [if_neg (show ¬ goB false false true = true by simp [goB])]; exact ⟨hI, rfl⟩, ht⟩, hS.F ht⟩) hS.2.2 d_Md_unit_40
      · skip
        refine lv_iconst (v := 1) hx hb d_Md_unit_27 (by decide) ?_
        refine lv_goto (tgt := 32) hx hb d_Md_unit_28 (by decide) ?_
        refine lv_iconst (v := 1) hx hb d_Md_unit_32 (by decide) ?_
        refine h_calli (va_runV (As := [.int 0, .int 1, .int 1]) (rest := []) ⟨hx, hb, hml, hown, htg⟩ (c_Md_goes l D cs N0 H x g i f false true true hsep hI) (cwV 3 htg (gw_V (gw_mem (i := 1092) (by decide +kernel) rfl) (gw_mem (i := 1094) (by decide +kernel) rfl) (gw_mem (i := 18) (by decide +kernel) rfl) (gw_mem (i := 38) (by decide +kernel) rfl) (gw_mem (i := 1095) (by decide +kernel) rfl)) rfl rfl rfl (by decide +kernel) ⟨Nat.le_of_ble_eq_true rfl, Nat.le_of_ble_eq_true rfl⟩) ⟨hPre.blind, hx_recv hK (ci := 0) rfl hI.1, hPre.at hB hS hsep.A⟩ rfl rfl hl.1 rfl (lv_room (Nat.le_of_ble_eq_true rfl)) d_Md_unit_33 ⟨Nat.zero_le _, Nat.zero_le _⟩) hS (fun _ h => h) (fun r33 H locs hp hz hk hS => ?_)
        obtain ⟨hI, er33⟩ := hp
        replace hI : md_I D cs H x g (upd i 0 1) f := hI
        refine lv_eqi (y := 0) er33 ?_
        refine lv_if_ne (x := 0) (tgt := 41) hx hb d_Md_unit_36 (by decide) (fun c36 => ?_) (fun c36 => ?_)
        · exact absurd c36 (by decide)
        · skip
          refine lv_iconst (v := 0) hx hb d_Md_unit_39 (by decide) ?_
          exact W.iret (v := 0) hx hb hr (fun t ht hW => ⟨⟨0, H, rfl, by dsimp only; have e0 : (decide (pn < 12)) = false := (by first | (simp [isSg, c7, c18, c24]; done) | (simp [isSg, c7, c18, c24]; omega) | omega | simp_all [isSg]); have e1 : (isSg q) = true := (by first | (simp [isSg, c7, c18, c24]; done) | (simp [isSg, c7, c18, c24]; omega) | omega | simp_all [isSg]); rw [e0, e1]; rw [if_neg (show ¬ goB false true true = true by simp [goB])]; exact ⟨hI, rfl⟩, ht⟩, hS.F ht⟩) hS.2.2 d_Md_unit_40
  · skip
    replace c7 : ¬ (12 ≤ pn) := fun z9 => c7 ((nI_leI (a := 12) (b := pn) (by omega) (by omega)).mpr z9)
    refine lv_iconst (v := 1) hx hb d_Md_unit_10 (by decide) ?_
    refine lv_goto (tgt := 15) hx hb d_Md_unit_11 (by decide) ?_
    refine lv_iload_n hx hb d_Md_unit_15 rfl (lv_at hl 1 rfl) ?_
    refine lv_bipush (v := 97) hx hb d_Md_unit_16 (by decide) ?_
    refine lv_icmp_lt (x := q) (y := 97) (tgt := 31) hx hb d_Md_unit_18 (by decide) (fun c18 => ?_) (fun c18 => ?_)
    · skip
      refine lv_iconst (v := 0) hx hb d_Md_unit_31 (by decide) ?_
      refine lv_iconst (v := 1) hx hb d_Md_unit_32 (by decide) ?_
      refine h_calli (va_runV (As := [.int 1, .int 0, .int 1]) (rest := []) ⟨hx, hb, hml, hown, htg⟩ (c_Md_goes l D cs N0 H x g i f true false true hsep hI) (cwV 3 htg (gw_V (gw_mem (i := 1092) (by decide +kernel) rfl) (gw_mem (i := 1094) (by decide +kernel) rfl) (gw_mem (i := 18) (by decide +kernel) rfl) (gw_mem (i := 38) (by decide +kernel) rfl) (gw_mem (i := 1095) (by decide +kernel) rfl)) rfl rfl rfl (by decide +kernel) ⟨Nat.le_of_ble_eq_true rfl, Nat.le_of_ble_eq_true rfl⟩) ⟨hPre.blind, hx_recv hK (ci := 0) rfl hI.1, hPre.at hB hS hsep.A⟩ rfl rfl hl.1 rfl (lv_room (Nat.le_of_ble_eq_true rfl)) d_Md_unit_33 ⟨Nat.zero_le _, Nat.zero_le _⟩) hS (fun _ h => h) (fun r33 H locs hp hz hk hS => ?_)
      obtain ⟨hI, er33⟩ := hp
      replace hI : md_I D cs H x g (upd i 0 2) f := hI
      refine lv_eqi (y := 0) er33 ?_
      refine lv_if_ne (x := 0) (tgt := 41) hx hb d_Md_unit_36 (by decide) (fun c36 => ?_) (fun c36 => ?_)
      · exact absurd c36 (by decide)
      · skip
        refine lv_iconst (v := 0) hx hb d_Md_unit_39 (by decide) ?_
        exact W.iret (v := 0) hx hb hr (fun t ht hW => ⟨⟨0, H, rfl, by dsimp only; have e0 : (decide (pn < 12)) = true := (by first | (simp [isSg, c7, c18]; done) | (simp [isSg, c7, c18]; omega) | omega | simp_all [isSg]); have e1 : (isSg q) = false := (by first | (simp [isSg, c7, c18]; done) | (simp [isSg, c7, c18]; omega) | omega | simp_all [isSg]); rw [e0, e1]; rw [if_neg (show ¬ goB true false true = true by simp [goB])]; exact ⟨hI, rfl⟩, ht⟩, hS.F ht⟩) hS.2.2 d_Md_unit_40
    · skip
      refine lv_iload_n hx hb d_Md_unit_21 rfl (lv_at hl 1 rfl) ?_
      refine lv_bipush (v := 122) hx hb d_Md_unit_22 (by decide) ?_
      refine lv_icmp_gt (x := q) (y := 122) (tgt := 31) hx hb d_Md_unit_24 (by decide) (fun c24 => ?_) (fun c24 => ?_)
      · skip
        refine lv_iconst (v := 0) hx hb d_Md_unit_31 (by decide) ?_
        refine lv_iconst (v := 1) hx hb d_Md_unit_32 (by decide) ?_
        refine h_calli (va_runV (As := [.int 1, .int 0, .int 1]) (rest := []) ⟨hx, hb, hml, hown, htg⟩ (c_Md_goes l D cs N0 H x g i f true false true hsep hI) (cwV 3 htg (gw_V (gw_mem (i := 1092) (by decide +kernel) rfl) (gw_mem (i := 1094) (by decide +kernel) rfl) (gw_mem (i := 18) (by decide +kernel) rfl) (gw_mem (i := 38) (by decide +kernel) rfl) (gw_mem (i := 1095) (by decide +kernel) rfl)) rfl rfl rfl (by decide +kernel) ⟨Nat.le_of_ble_eq_true rfl, Nat.le_of_ble_eq_true rfl⟩) ⟨hPre.blind, hx_recv hK (ci := 0) rfl hI.1, hPre.at hB hS hsep.A⟩ rfl rfl hl.1 rfl (lv_room (Nat.le_of_ble_eq_true rfl)) d_Md_unit_33 ⟨Nat.zero_le _, Nat.zero_le _⟩) hS (fun _ h => h) (fun r33 H locs hp hz hk hS => ?_)
        obtain ⟨hI, er33⟩ := hp
        replace hI : md_I D cs H x g (upd i 0 2) f := hI
        refine lv_eqi (y := 0) er33 ?_
        refine lv_if_ne (x := 0) (tgt := 41) hx hb d_Md_unit_36 (by decide) (fun c36 => ?_) (fun c36 => ?_)
        · exact absurd c36 (by decide)
        · skip
          refine lv_iconst (v := 0) hx hb d_Md_unit_39 (by decide) ?_
          exact W.iret (v := 0) hx hb hr (fun t ht hW => ⟨⟨0, H, rfl, by dsimp only; have e0 : (decide (pn < 12)) = true := (by first | (simp [isSg, c7, c18, c24]; done) | (simp [isSg, c7, c18, c24]; omega) | omega | simp_all [isSg]); have e1 : (isSg q) = false := (by first | (simp [isSg, c7, c18, c24]; done) | (simp [isSg, c7, c18, c24]; omega) | omega | simp_all [isSg]); rw [e0, e1]; rw [if_neg (show ¬ goB true false true = true by simp [goB])]; exact ⟨hI, rfl⟩, ht⟩, hS.F ht⟩) hS.2.2 d_Md_unit_40
      · skip
        refine lv_iconst (v := 1) hx hb d_Md_unit_27 (by decide) ?_
        refine lv_goto (tgt := 32) hx hb d_Md_unit_28 (by decide) ?_
        refine lv_iconst (v := 1) hx hb d_Md_unit_32 (by decide) ?_
        refine h_calli (va_runV (As := [.int 1, .int 1, .int 1]) (rest := []) ⟨hx, hb, hml, hown, htg⟩ (c_Md_goes l D cs N0 H x g i f true true true hsep hI) (cwV 3 htg (gw_V (gw_mem (i := 1092) (by decide +kernel) rfl) (gw_mem (i := 1094) (by decide +kernel) rfl) (gw_mem (i := 18) (by decide +kernel) rfl) (gw_mem (i := 38) (by decide +kernel) rfl) (gw_mem (i := 1095) (by decide +kernel) rfl)) rfl rfl rfl (by decide +kernel) ⟨Nat.le_of_ble_eq_true rfl, Nat.le_of_ble_eq_true rfl⟩) ⟨hPre.blind, hx_recv hK (ci := 0) rfl hI.1, hPre.at hB hS hsep.A⟩ rfl rfl hl.1 rfl (lv_room (Nat.le_of_ble_eq_true rfl)) d_Md_unit_33 ⟨Nat.zero_le _, Nat.zero_le _⟩) hS (fun _ h => h) (fun r33 H locs hp hz hk hS => ?_)
        obtain ⟨hI, er33⟩ := hp
        replace hI : md_I D cs H x g (upd i 0 0) f := hI
        refine lv_eqi (y := 1) er33 ?_
        refine lv_if_ne (x := 1) (tgt := 41) hx hb d_Md_unit_36 (by decide) (fun c36 => ?_) (fun c36 => ?_)
        · skip
          refine lv_aload_n hx hb d_Md_unit_41 rfl (lv_at hl 0 rfl) ?_
          refine hx_get (v := .ref (g 0)) hx hb htg iMd hown hK hI.1 rfl 2 (by decide) (htg _ (gw_mem (i := 1000) (by decide +kernel) rfl)) (fun _ h9 => h9) rfl d_Md_unit_42 ?_
          refine lv_aload_n hx hb d_Md_unit_45 rfl (lv_at hl 0 rfl) ?_
          refine hx_get (v := .int (i 1)) hx hb htg iMd hown hK hI.1 rfl 1 (by decide) (htg _ (gw_mem (i := 999) (by decide +kernel) rfl)) (fun _ h9 => h9) rfl d_Md_unit_46 ?_
          refine lv_eqi (y := (nI pn)) hpn ?_
          refine lv_iload_n hx hb d_Md_unit_49 rfl (lv_at hl 1 rfl) ?_
          refine hx_iast hx hb hK hS (Or.inr ⟨0, by decide, rfl⟩) 0 (hI.2 0 (by decide)) rfl (show vp_in (nI pn) 12 from vp_in_nI (n := pn) (by omega) (by decide)) d_Md_unit_50 (fun H locs hat hz ho hS => ?_)
          replace hI : md_I D cs H x g (upd i 0 0) (updA f 0 pn (q)) := md_I.puta hI hsep (by decide) (by rw [show ((nI pn) : Int32).toNatClampNeg = pn from nI_clamp (n := pn) (by omega)] at hat; exact hat) ho
          refine lv_aload_n hx hb d_Md_unit_51 rfl (lv_at hl 0 rfl) ?_
          refine lv_dup hx hb d_Md_unit_52 rfl ?_
          refine hx_get (v := .int (i 1)) hx hb htg iMd hown hK hI.1 rfl 1 (by decide) (htg _ (gw_mem (i := 999) (by decide +kernel) rfl)) (fun _ h9 => h9) rfl d_Md_unit_53 ?_
          refine lv_eqi (y := (nI pn)) hpn ?_
          refine lv_iconst (v := 1) hx hb d_Md_unit_56 (by decide) ?_
          refine lv_iadd (x := (nI pn)) (y := 1) hx hb d_Md_unit_57 ?_
          refine lv_eqi (y := (nI (pn + 1))) (nI_add pn 1) ?_
          refine hx_put (ty := .int) (v := .int (nI (pn + 1))) hx hb htg iMd tMd tMd_ok nMd hown hK hI.1 hS (Or.inl rfl) rfl 1 (by decide) (htg _ (gw_mem (i := 999) (by decide +kernel) rfl)) (fun _ h9 => h9) rfl (by decide +kernel) rfl rfl (Nat.le_of_ble_eq_true rfl) d_Md_unit_58 (fun H locs hat hz ho hS => ?_)
          replace hI : md_I D cs H x g (upd (upd i 0 0) 1 ((nI (pn + 1)))) (updA f 0 pn (q)) := md_I.puti hI hsep hat ho rfl
          refine lv_aload_n hx hb d_Md_unit_61 rfl (lv_at hl 0 rfl) ?_
          refine hx_get (v := .int (nI (pn + 1))) hx hb htg iMd hown hK hI.1 rfl 1 (by decide) (htg _ (gw_mem (i := 999) (by decide +kernel) rfl)) (fun _ h9 => h9) rfl d_Md_unit_62 ?_
          exact W.iret (v := (nI (pn + 1))) hx hb hr (fun t ht hW => ⟨⟨(nI (pn + 1)), H, rfl, by dsimp only; have e0 : (decide (pn < 12)) = true := (by first | (simp [isSg, c7, c18, c24]; done) | (simp [isSg, c7, c18, c24]; omega) | omega | simp_all [isSg]); have e1 : (isSg q) = true := (by first | (simp [isSg, c7, c18, c24]; done) | (simp [isSg, c7, c18, c24]; omega) | omega | simp_all [isSg]); rw [e0, e1]; rw [if_pos (show goB true true true = true from rfl)]; exact ⟨hI, rfl⟩, ht⟩, hS.F ht⟩) hS.2.2 d_Md_unit_65
        · exact absurd c36 (by decide)
def y_Md_clear : MethodName := ⟨"NameMergesModel", "clear", "()I"⟩
abbrev w_Md_clear : List Cond := Cond.code y_Md_clear prog_7_method_7_code 2 (Option.some Jvm.ClassFile.FieldType.int) :: gw
theorem d_Md_clear_0 : decode prog_7_method_7_code 0 = .ok (.aload_n 0, 1) := by decide +kernel
theorem d_Md_clear_1 : decode prog_7_method_7_code 1 = .ok (.iconst 0, 1) := by decide +kernel
theorem d_Md_clear_2 : decode prog_7_method_7_code 2 = .ok (.putfield 77, 3) := by decide +kernel
theorem d_Md_clear_5 : decode prog_7_method_7_code 5 = .ok (.aload_n 0, 1) := by decide +kernel
theorem d_Md_clear_6 : decode prog_7_method_7_code 6 = .ok (.getfield 85, 3) := by decide +kernel
theorem d_Md_clear_9 : decode prog_7_method_7_code 9 = .ok (.istore_n 1, 1) := by decide +kernel
theorem d_Md_clear_10 : decode prog_7_method_7_code 10 = .ok (.aload_n 0, 1) := by decide +kernel
theorem d_Md_clear_11 : decode prog_7_method_7_code 11 = .ok (.iconst 0, 1) := by decide +kernel
theorem d_Md_clear_12 : decode prog_7_method_7_code 12 = .ok (.putfield 85, 3) := by decide +kernel
theorem d_Md_clear_15 : decode prog_7_method_7_code 15 = .ok (.iload_n 1, 1) := by decide +kernel
theorem d_Md_clear_16 : decode prog_7_method_7_code 16 = .ok (.ireturn, 1) := by decide +kernel
set_option maxHeartbeats 4000000 in
set_option maxRecDepth 100000 in
theorem c_Md_clear (l : Launch) (D : va_G) (cs : Nat → ClassId) (N0 : Nat) (H : Heap) (x : Nat) (g : Nat → Nat) (i : Nat → Int32) (f : Nat → Nat → Int32) (hsep : md_sep N0 x g) (hI : md_I D cs H x g i f) : Met l y_Md_clear w_Md_clear ({ frames := 0, cells := 0, slots := 0, locals := 0 }) (hPre D cs N0 [.ref x] H) (hQi (fun r H' => md_I D cs H' x g (upd (upd i 0 0) 1 0) f ∧ r = i 1) (md_A x g)) 0 0 (md_A x g) := by
  refine Met.ofW (cc := prog_7_method_7_code) (maxL := 2) (ret := (Option.some Jvm.ClassFile.FieldType.int)) (by decide) rfl ?_
  intro p e s m args below meth c s₁ B hml hv
  obtain ⟨rfl, rfl, hB⟩ := hv
  have hx := B.exec
  have hb := B.bytes
  have hr := B.returns
  have hts := atoms_spec (ws := w_Md_clear) B.pre
  have htg : ∀ w ∈ gw, w.before _ s = true := fun w h => hts w (List.mem_cons_of_mem _ h)
  have hown : s.vm.findClass "NameMergesModel" = some m.cls := findClass_of_methodNamed B.named
  have hlocks := B.notSynchronized
  have hK := hB.1
  have hS : va_S (md_A x g) s.heap s.heap [] := va_S.rf
  obtain ⟨H, hH⟩ : ∃ z : Heap, z = s.heap := ⟨_, rfl⟩
  rw [← hH] at hI
  have hS : va_S (md_A x g) s.heap H [] := by rw [hH]; exact va_S.rf
  have hl := lv_entry ([.ref x]) (n := 2) (Nat.le_of_ble_eq_true rfl)
  rw [lg_entry_eq, ← hH]
  generalize (lg_sl ([.ref x]) ++ List.replicate (2 - (lg_sl ([.ref x])).length) Slot.unset).toArray = ls at hl ⊢
  have hl : lv_has ls 2 [(0, .ref x)] := hl
  refine lv_aload_n hx hb d_Md_clear_0 rfl (lv_at hl 0 rfl) ?_
  refine lv_iconst (v := 0) hx hb d_Md_clear_1 (by decide) ?_
  refine hx_put (ty := .int) (v := .int 0) hx hb htg iMd tMd tMd_ok nMd hown hK hI.1 hS (Or.inl rfl) rfl 0 (by decide) (htg _ (gw_mem (i := 998) (by decide +kernel) rfl)) (fun _ h9 => h9) rfl (by decide +kernel) rfl rfl (Nat.le_of_ble_eq_true rfl) d_Md_clear_2 (fun H locs hat hz ho hS => ?_)
  replace hI : md_I D cs H x g (upd i 0 (0)) f := md_I.puti hI hsep hat ho rfl
  refine lv_aload_n hx hb d_Md_clear_5 rfl (lv_at hl 0 rfl) ?_
  refine hx_get (v := .int (i 1)) hx hb htg iMd hown hK hI.1 rfl 1 (by decide) (htg _ (gw_mem (i := 999) (by decide +kernel) rfl)) (fun _ h9 => h9) rfl d_Md_clear_6 ?_
  refine lv_istore_n (lv' := [(1, .int (i 1)), (0, .ref x)]) hx hb d_Md_clear_9 rfl hl (by decide) rfl (fun ls hl => ?_)
  refine lv_aload_n hx hb d_Md_clear_10 rfl (lv_at hl 1 rfl) ?_
  refine lv_iconst (v := 0) hx hb d_Md_clear_11 (by decide) ?_
  refine hx_put (ty := .int) (v := .int 0) hx hb htg iMd tMd tMd_ok nMd hown hK hI.1 hS (Or.inl rfl) rfl 1 (by decide) (htg _ (gw_mem (i := 999) (by decide +kernel) rfl)) (fun _ h9 => h9) rfl (by decide +kernel) rfl rfl (Nat.le_of_ble_eq_true rfl) d_Md_clear_12 (fun H locs hat hz ho hS => ?_)
  replace hI : md_I D cs H x g (upd (upd i 0 (0)) 1 (0)) f := md_I.puti hI hsep hat ho rfl
  refine lv_iload_n hx hb d_Md_clear_15 rfl (lv_at hl 0 rfl) ?_
  exact W.iret (v := (i 1)) hx hb hr (fun t ht hW => ⟨⟨(i 1), H, rfl, ⟨hI, rfl⟩, ht⟩, hS.F ht⟩) hS.2.2 d_Md_clear_16
def y_Md_name : MethodName := ⟨"NameMergesModel", "name", "()I"⟩
abbrev w_Md_name : List Cond := Cond.code y_Md_name prog_7_method_8_code 1 (Option.some Jvm.ClassFile.FieldType.int) :: gw
theorem d_Md_name_0 : decode prog_7_method_8_code 0 = .ok (.aload_n 0, 1) := by decide +kernel
theorem d_Md_name_1 : decode prog_7_method_8_code 1 = .ok (.aload_n 0, 1) := by decide +kernel
theorem d_Md_name_2 : decode prog_7_method_8_code 2 = .ok (.getfield 81, 3) := by decide +kernel
theorem d_Md_name_5 : decode prog_7_method_8_code 5 = .ok (.bipush 24, 2) := by decide +kernel
theorem d_Md_name_7 : decode prog_7_method_8_code 7 = .ok (.if_icmp .ge 7, 3) := by decide +kernel
theorem d_Md_name_10 : decode prog_7_method_8_code 10 = .ok (.iconst 1, 1) := by decide +kernel
theorem d_Md_name_11 : decode prog_7_method_8_code 11 = .ok (.goto 4, 3) := by decide +kernel
theorem d_Md_name_14 : decode prog_7_method_8_code 14 = .ok (.iconst 0, 1) := by decide +kernel
theorem d_Md_name_15 : decode prog_7_method_8_code 15 = .ok (.iconst 1, 1) := by decide +kernel
theorem d_Md_name_16 : decode prog_7_method_8_code 16 = .ok (.iconst 1, 1) := by decide +kernel
theorem d_Md_name_17 : decode prog_7_method_8_code 17 = .ok (.invokevirtual 88, 3) := by decide +kernel
theorem d_Md_name_20 : decode prog_7_method_8_code 20 = .ok (.ifCond .ne 5, 3) := by decide +kernel
theorem d_Md_name_23 : decode prog_7_method_8_code 23 = .ok (.iconst 0, 1) := by decide +kernel
theorem d_Md_name_24 : decode prog_7_method_8_code 24 = .ok (.ireturn, 1) := by decide +kernel
theorem d_Md_name_25 : decode prog_7_method_8_code 25 = .ok (.aload_n 0, 1) := by decide +kernel
theorem d_Md_name_26 : decode prog_7_method_8_code 26 = .ok (.dup, 1) := by decide +kernel
theorem d_Md_name_27 : decode prog_7_method_8_code 27 = .ok (.getfield 81, 3) := by decide +kernel
theorem d_Md_name_30 : decode prog_7_method_8_code 30 = .ok (.iconst 1, 1) := by decide +kernel
theorem d_Md_name_31 : decode prog_7_method_8_code 31 = .ok (.iadd, 1) := by decide +kernel
theorem d_Md_name_32 : decode prog_7_method_8_code 32 = .ok (.putfield 81, 3) := by decide +kernel
theorem d_Md_name_35 : decode prog_7_method_8_code 35 = .ok (.aload_n 0, 1) := by decide +kernel
theorem d_Md_name_36 : decode prog_7_method_8_code 36 = .ok (.getfield 81, 3) := by decide +kernel
theorem d_Md_name_39 : decode prog_7_method_8_code 39 = .ok (.iconst 1, 1) := by decide +kernel
theorem d_Md_name_40 : decode prog_7_method_8_code 40 = .ok (.isub, 1) := by decide +kernel
theorem d_Md_name_41 : decode prog_7_method_8_code 41 = .ok (.ireturn, 1) := by decide +kernel
set_option maxHeartbeats 4000000 in
set_option maxRecDepth 100000 in
theorem c_Md_name (l : Launch) (D : va_G) (cs : Nat → ClassId) (N0 : Nat) (H : Heap) (x : Nat) (g : Nat → Nat) (i : Nat → Int32) (f : Nat → Nat → Int32) (n : Nat) (hsep : md_sep N0 x g) (hI : md_I D cs H x g i f) (hn : i 2 = nI n) (hn24 : n ≤ 24) : Met l y_Md_name w_Md_name ({ frames := 1, cells := 0, slots := 0, locals := 23 }) (hPre D cs N0 [.ref x] H) (hQi (fun r H' => if goB (decide (n < 24)) true true = true then (md_I D cs H' x g (upd (upd i 0 (goV (decide (n < 24)) true true)) 2 (nI (n + 1))) f ∧ r = nI n) else (md_I D cs H' x g (upd i 0 (goV (decide (n < 24)) true true)) f ∧ r = 0)) (md_A x g)) 0 0 (md_A x g) := by
  refine Met.ofW (cc := prog_7_method_8_code) (maxL := 1) (ret := (Option.some Jvm.ClassFile.FieldType.int)) (by decide) rfl ?_
  intro p e s m args below meth c s₁ B hml hv
  obtain ⟨rfl, rfl, hB⟩ := hv
  have hx := B.exec
  have hb := B.bytes
  have hr := B.returns
  have hts := atoms_spec (ws := w_Md_name) B.pre
  have htg : ∀ w ∈ gw, w.before _ s = true := fun w h => hts w (List.mem_cons_of_mem _ h)
  have hown : s.vm.findClass "NameMergesModel" = some m.cls := findClass_of_methodNamed B.named
  have hlocks := B.notSynchronized
  have hK := hB.1
  have hS : va_S (md_A x g) s.heap s.heap [] := va_S.rf
  obtain ⟨H, hH⟩ : ∃ z : Heap, z = s.heap := ⟨_, rfl⟩
  rw [← hH] at hI
  have hS : va_S (md_A x g) s.heap H [] := by rw [hH]; exact va_S.rf
  have hl := lv_entry ([.ref x]) (n := 1) (Nat.le_of_ble_eq_true rfl)
  rw [lg_entry_eq, ← hH]
  generalize (lg_sl ([.ref x]) ++ List.replicate (1 - (lg_sl ([.ref x])).length) Slot.unset).toArray = ls at hl ⊢
  have hl : lv_has ls 1 [(0, .ref x)] := hl
  refine lv_aload_n hx hb d_Md_name_0 rfl (lv_at hl 0 rfl) ?_
  refine lv_aload_n hx hb d_Md_name_1 rfl (lv_at hl 0 rfl) ?_
  refine hx_get (v := .int (i 2)) hx hb htg iMd hown hK hI.1 rfl 3 (by decide) (htg _ (gw_mem (i := 1001) (by decide +kernel) rfl)) (fun _ h9 => h9) rfl d_Md_name_2 ?_
  refine lv_eqi (y := (nI n)) hn ?_
  refine lv_bipush (v := 24) hx hb d_Md_name_5 (by decide) ?_
  refine lv_icmp_ge (x := (nI n)) (y := 24) (tgt := 14) hx hb d_Md_name_7 (by decide) (fun c7 => ?_) (fun c7 => ?_)
  · skip
    replace c7 : 24 ≤ n := (nI_leI (a := 24) (b := n) (by omega) (by omega)).mp c7
    refine lv_iconst (v := 0) hx hb d_Md_name_14 (by decide) ?_
    refine lv_iconst (v := 1) hx hb d_Md_name_15 (by decide) ?_
    refine lv_iconst (v := 1) hx hb d_Md_name_16 (by decide) ?_
    refine h_calli (va_runV (As := [.int 0, .int 1, .int 1]) (rest := []) ⟨hx, hb, hml, hown, htg⟩ (c_Md_goes l D cs N0 H x g i f false true true hsep hI) (cwV 3 htg (gw_V (gw_mem (i := 1092) (by decide +kernel) rfl) (gw_mem (i := 1094) (by decide +kernel) rfl) (gw_mem (i := 18) (by decide +kernel) rfl) (gw_mem (i := 38) (by decide +kernel) rfl) (gw_mem (i := 1095) (by decide +kernel) rfl)) rfl rfl rfl (by decide +kernel) ⟨Nat.le_of_ble_eq_true rfl, Nat.le_of_ble_eq_true rfl⟩) ⟨hPre.blind, hx_recv hK (ci := 0) rfl hI.1, hPre.at hB hS hsep.A⟩ rfl rfl hl.1 rfl (lv_room (Nat.le_of_ble_eq_true rfl)) d_Md_name_17 ⟨Nat.zero_le _, Nat.zero_le _⟩) hS (fun _ h => h) (fun r17 H locs hp hz hk hS => ?_)
    obtain ⟨hI, er17⟩ := hp
    replace hI : md_I D cs H x g (upd i 0 1) f := hI
    refine lv_eqi (y := 0) er17 ?_
    refine lv_if_ne (x := 0) (tgt := 25) hx hb d_Md_name_20 (by decide) (fun c20 => ?_) (fun c20 => ?_)
    · exact absurd c20 (by decide)
    · skip
      refine lv_iconst (v := 0) hx hb d_Md_name_23 (by decide) ?_
      exact W.iret (v := 0) hx hb hr (fun t ht hW => ⟨⟨0, H, rfl, by dsimp only; have e0 : (decide (n < 24)) = false := (by first | (simp [c7]; done) | (simp [c7]; omega) | omega | simp_all); rw [e0]; rw [if_neg (show ¬ goB false true true = true by simp [goB])]; exact ⟨hI, rfl⟩, ht⟩, hS.F ht⟩) hS.2.2 d_Md_name_24
  · skip
    replace c7 : ¬ (24 ≤ n) := fun z9 => c7 ((nI_leI (a := 24) (b := n) (by omega) (by omega)).mpr z9)
    refine lv_iconst (v := 1) hx hb d_Md_name_10 (by decide) ?_
    refine lv_goto (tgt := 15) hx hb d_Md_name_11 (by decide) ?_
    refine lv_iconst (v := 1) hx hb d_Md_name_15 (by decide) ?_
    refine lv_iconst (v := 1) hx hb d_Md_name_16 (by decide) ?_
    refine h_calli (va_runV (As := [.int 1, .int 1, .int 1]) (rest := []) ⟨hx, hb, hml, hown, htg⟩ (c_Md_goes l D cs N0 H x g i f true true true hsep hI) (cwV 3 htg (gw_V (gw_mem (i := 1092) (by decide +kernel) rfl) (gw_mem (i := 1094) (by decide +kernel) rfl) (gw_mem (i := 18) (by decide +kernel) rfl) (gw_mem (i := 38) (by decide +kernel) rfl) (gw_mem (i := 1095) (by decide +kernel) rfl)) rfl rfl rfl (by decide +kernel) ⟨Nat.le_of_ble_eq_true rfl, Nat.le_of_ble_eq_true rfl⟩) ⟨hPre.blind, hx_recv hK (ci := 0) rfl hI.1, hPre.at hB hS hsep.A⟩ rfl rfl hl.1 rfl (lv_room (Nat.le_of_ble_eq_true rfl)) d_Md_name_17 ⟨Nat.zero_le _, Nat.zero_le _⟩) hS (fun _ h => h) (fun r17 H locs hp hz hk hS => ?_)
    obtain ⟨hI, er17⟩ := hp
    replace hI : md_I D cs H x g (upd i 0 0) f := hI
    refine lv_eqi (y := 1) er17 ?_
    refine lv_if_ne (x := 1) (tgt := 25) hx hb d_Md_name_20 (by decide) (fun c20 => ?_) (fun c20 => ?_)
    · skip
      refine lv_aload_n hx hb d_Md_name_25 rfl (lv_at hl 0 rfl) ?_
      refine lv_dup hx hb d_Md_name_26 rfl ?_
      refine hx_get (v := .int (i 2)) hx hb htg iMd hown hK hI.1 rfl 3 (by decide) (htg _ (gw_mem (i := 1001) (by decide +kernel) rfl)) (fun _ h9 => h9) rfl d_Md_name_27 ?_
      refine lv_eqi (y := (nI n)) hn ?_
      refine lv_iconst (v := 1) hx hb d_Md_name_30 (by decide) ?_
      refine lv_iadd (x := (nI n)) (y := 1) hx hb d_Md_name_31 ?_
      refine lv_eqi (y := (nI (n + 1))) (nI_add n 1) ?_
      refine hx_put (ty := .int) (v := .int (nI (n + 1))) hx hb htg iMd tMd tMd_ok nMd hown hK hI.1 hS (Or.inl rfl) rfl 3 (by decide) (htg _ (gw_mem (i := 1001) (by decide +kernel) rfl)) (fun _ h9 => h9) rfl (by decide +kernel) rfl rfl (Nat.le_of_ble_eq_true rfl) d_Md_name_32 (fun H locs hat hz ho hS => ?_)
      replace hI : md_I D cs H x g (upd (upd i 0 0) 2 ((nI (n + 1)))) f := md_I.puti hI hsep hat ho rfl
      refine lv_aload_n hx hb d_Md_name_35 rfl (lv_at hl 0 rfl) ?_
      refine hx_get (v := .int (nI (n + 1))) hx hb htg iMd hown hK hI.1 rfl 3 (by decide) (htg _ (gw_mem (i := 1001) (by decide +kernel) rfl)) (fun _ h9 => h9) rfl d_Md_name_36 ?_
      refine lv_iconst (v := 1) hx hb d_Md_name_39 (by decide) ?_
      refine lv_isub (x := (nI (n + 1))) (y := 1) hx hb d_Md_name_40 ?_
      refine lv_eqi (y := (nI n)) (pk_sub (a := n + 1) (b := 1) (by omega)) ?_
      exact W.iret (v := (nI n)) hx hb hr (fun t ht hW => ⟨⟨(nI n), H, rfl, by dsimp only; have e0 : (decide (n < 24)) = true := (by first | (simp [c7]; done) | (simp [c7]; omega) | omega | simp_all); rw [e0]; rw [if_pos (show goB true true true = true from rfl)]; exact ⟨hI, rfl⟩, ht⟩, hS.F ht⟩) hS.2.2 d_Md_name_41
    · exact absurd c20 (by decide)
end
section
abbrev tn (q : Int32) : Nat := q.toNatClampNeg
theorem isN_n {n : Nat} {q : Int32} (h : isN n q = true) (hn : n < 2 ^ 31) : tn q < n ∧ q = nI (tn q) := by
  have h1 : ¬ q < 0 := by intro z; simp [isN, z] at h
  have h2 : ¬ nI n ≤ q := by intro z; simp [isN, z] at h
  obtain ⟨j, hj, rfl⟩ := nI_of h1
  have hjn : ¬ n ≤ j := fun z => h2 ((nI_leI hn hj).mpr z)
  show (nI j).toNatClampNeg < n ∧ nI j = nI (nI j).toNatClampNeg
  rw [nI_clamp hj]
  exact ⟨by omega, rfl⟩
theorem isSt_n {q : Int32} (h : isSt q = true) : tn q < 4 ∧ q = nI (tn q) := isN_n (n := 4) h (by decide)
def fstFrom (P : Nat → Bool) : Nat → Nat → Int32
  | _, 0 => -1
  | k, n + 1 => if P k = true then nI k else fstFrom P (k + 1) n
theorem fst_end {P : Nat → Bool} {k n : Nat} (h : n ≤ k) : fstFrom P k (n - k) = -1 := by rw [Nat.sub_eq_zero_of_le h]; rfl
theorem fst_hit {P : Nat → Bool} {k n : Nat} (h : k < n) (hp : P k = true) : fstFrom P k (n - k) = nI k := by
  rw [show n - k = (n - (k + 1)) + 1 by omega]
  exact if_pos hp
theorem fst_miss {P : Nat → Bool} {k n : Nat} (h : k < n) (hp : P k = false) : fstFrom P k (n - k) = fstFrom P (k + 1) (n - (k + 1)) := by
  rw [show n - k = (n - (k + 1)) + 1 by omega]
  exact if_neg (by rw [hp]; decide)
def ownP (f : Nat → Nat → Int32) (st : Nat) (q : Int32) : Nat → Bool := fun j => !decide (q ≤ 0) && decide (f 12 (4 * j + st) = q)
def y_Md_dates : MethodName := ⟨"NameMergesModel", "dates", "(III)Z"⟩
abbrev w_Md_dates : List Cond := Cond.code y_Md_dates prog_7_method_10_code 5 (Option.some Jvm.ClassFile.FieldType.boolean) :: gw
theorem d_Md_dates_0 : decode prog_7_method_10_code 0 = .ok (.aload_n 0, 1) := by decide +kernel
theorem d_Md_dates_1 : decode prog_7_method_10_code 1 = .ok (.aload_n 0, 1) := by decide +kernel
theorem d_Md_dates_2 : decode prog_7_method_10_code 2 = .ok (.iload_n 1, 1) := by decide +kernel
theorem d_Md_dates_3 : decode prog_7_method_10_code 3 = .ok (.invokevirtual 92, 3) := by decide +kernel
theorem d_Md_dates_6 : decode prog_7_method_10_code 6 = .ok (.iload_n 2, 1) := by decide +kernel
theorem d_Md_dates_7 : decode prog_7_method_10_code 7 = .ok (.invokestatic 96, 3) := by decide +kernel
theorem d_Md_dates_10 : decode prog_7_method_10_code 10 = .ok (.ifCond .eq 19, 3) := by decide +kernel
theorem d_Md_dates_13 : decode prog_7_method_10_code 13 = .ok (.iload_n 3, 1) := by decide +kernel
theorem d_Md_dates_14 : decode prog_7_method_10_code 14 = .ok (.invokestatic 96, 3) := by decide +kernel
theorem d_Md_dates_17 : decode prog_7_method_10_code 17 = .ok (.ifCond .eq 12, 3) := by decide +kernel
theorem d_Md_dates_20 : decode prog_7_method_10_code 20 = .ok (.iload_n 2, 1) := by decide +kernel
theorem d_Md_dates_21 : decode prog_7_method_10_code 21 = .ok (.iload_n 3, 1) := by decide +kernel
theorem d_Md_dates_22 : decode prog_7_method_10_code 22 = .ok (.if_icmp .gt 7, 3) := by decide +kernel
theorem d_Md_dates_25 : decode prog_7_method_10_code 25 = .ok (.iconst 1, 1) := by decide +kernel
theorem d_Md_dates_26 : decode prog_7_method_10_code 26 = .ok (.goto 4, 3) := by decide +kernel
theorem d_Md_dates_29 : decode prog_7_method_10_code 29 = .ok (.iconst 0, 1) := by decide +kernel
theorem d_Md_dates_30 : decode prog_7_method_10_code 30 = .ok (.iconst 1, 1) := by decide +kernel
theorem d_Md_dates_31 : decode prog_7_method_10_code 31 = .ok (.invokevirtual 88, 3) := by decide +kernel
theorem d_Md_dates_34 : decode prog_7_method_10_code 34 = .ok (.ifCond .ne 5, 3) := by decide +kernel
theorem d_Md_dates_37 : decode prog_7_method_10_code 37 = .ok (.iconst 0, 1) := by decide +kernel
theorem d_Md_dates_38 : decode prog_7_method_10_code 38 = .ok (.ireturn, 1) := by decide +kernel
theorem d_Md_dates_39 : decode prog_7_method_10_code 39 = .ok (.aload_n 0, 1) := by decide +kernel
theorem d_Md_dates_40 : decode prog_7_method_10_code 40 = .ok (.getfield 34, 3) := by decide +kernel
theorem d_Md_dates_43 : decode prog_7_method_10_code 43 = .ok (.iload_n 1, 1) := by decide +kernel
theorem d_Md_dates_44 : decode prog_7_method_10_code 44 = .ok (.iaload, 1) := by decide +kernel
theorem d_Md_dates_45 : decode prog_7_method_10_code 45 = .ok (.iload_n 3, 1) := by decide +kernel
theorem d_Md_dates_46 : decode prog_7_method_10_code 46 = .ok (.if_icmp .ne 13, 3) := by decide +kernel
theorem d_Md_dates_49 : decode prog_7_method_10_code 49 = .ok (.aload_n 0, 1) := by decide +kernel
theorem d_Md_dates_50 : decode prog_7_method_10_code 50 = .ok (.getfield 31, 3) := by decide +kernel
theorem d_Md_dates_53 : decode prog_7_method_10_code 53 = .ok (.iload_n 1, 1) := by decide +kernel
theorem d_Md_dates_54 : decode prog_7_method_10_code 54 = .ok (.iaload, 1) := by decide +kernel
theorem d_Md_dates_55 : decode prog_7_method_10_code 55 = .ok (.iload_n 2, 1) := by decide +kernel
theorem d_Md_dates_56 : decode prog_7_method_10_code 56 = .ok (.if_icmp .eq 7, 3) := by decide +kernel
theorem d_Md_dates_59 : decode prog_7_method_10_code 59 = .ok (.iconst 1, 1) := by decide +kernel
theorem d_Md_dates_60 : decode prog_7_method_10_code 60 = .ok (.goto 4, 3) := by decide +kernel
theorem d_Md_dates_63 : decode prog_7_method_10_code 63 = .ok (.iconst 0, 1) := by decide +kernel
theorem d_Md_dates_64 : decode prog_7_method_10_code 64 = .ok (.istore 4, 2) := by decide +kernel
theorem d_Md_dates_66 : decode prog_7_method_10_code 66 = .ok (.aload_n 0, 1) := by decide +kernel
theorem d_Md_dates_67 : decode prog_7_method_10_code 67 = .ok (.getfield 31, 3) := by decide +kernel
theorem d_Md_dates_70 : decode prog_7_method_10_code 70 = .ok (.iload_n 1, 1) := by decide +kernel
theorem d_Md_dates_71 : decode prog_7_method_10_code 71 = .ok (.iload_n 2, 1) := by decide +kernel
theorem d_Md_dates_72 : decode prog_7_method_10_code 72 = .ok (.iastore, 1) := by decide +kernel
theorem d_Md_dates_73 : decode prog_7_method_10_code 73 = .ok (.aload_n 0, 1) := by decide +kernel
theorem d_Md_dates_74 : decode prog_7_method_10_code 74 = .ok (.getfield 34, 3) := by decide +kernel
theorem d_Md_dates_77 : decode prog_7_method_10_code 77 = .ok (.iload_n 1, 1) := by decide +kernel
theorem d_Md_dates_78 : decode prog_7_method_10_code 78 = .ok (.iload_n 3, 1) := by decide +kernel
theorem d_Md_dates_79 : decode prog_7_method_10_code 79 = .ok (.iastore, 1) := by decide +kernel
theorem d_Md_dates_80 : decode prog_7_method_10_code 80 = .ok (.iload 4, 2) := by decide +kernel
theorem d_Md_dates_82 : decode prog_7_method_10_code 82 = .ok (.ireturn, 1) := by decide +kernel
set_option maxHeartbeats 4000000 in
set_option maxRecDepth 100000 in
theorem c_Md_dates (l : Launch) (D : va_G) (cs : Nat → ClassId) (N0 : Nat) (H : Heap) (x : Nat) (g : Nat → Nat) (i : Nat → Int32) (f : Nat → Nat → Int32) (q u v : Int32) (hsep : md_sep N0 x g) (hI : md_I D cs H x g i f) (n : Nat) (hn : i 2 = nI n) (hn24 : n ≤ 24) : Met l y_Md_dates w_Md_dates ({ frames := 1, cells := 0, slots := 0, locals := 23 }) (hPre D cs N0 [.ref x, .int q, .int u, .int v] H) (hQi (fun r H' => if goB (isN n q) (isD u && isD v && !decide (v < u)) true = true then (md_I D cs H' x g (upd i 0 (goV (isN n q) (isD u && isD v && !decide (v < u)) true)) (updA (updA f 7 (tn q) u) 8 (tn q) v) ∧ r = bI (!(decide (f 8 (tn q) = v) && decide (f 7 (tn q) = u)))) else (md_I D cs H' x g (upd i 0 (goV (isN n q) (isD u && isD v && !decide (v < u)) true)) f ∧ r = 0)) (md_A x g)) 0 0 (md_A x g) := by
  refine Met.ofW (cc := prog_7_method_10_code) (maxL := 5) (ret := (Option.some Jvm.ClassFile.FieldType.boolean)) (by decide) rfl ?_
  intro p e s m args below meth c s₁ B hml hv
  obtain ⟨rfl, rfl, hB⟩ := hv
  have hx := B.exec
  have hb := B.bytes
  have hr := B.returns
  have hts := atoms_spec (ws := w_Md_dates) B.pre
  have htg : ∀ w ∈ gw, w.before _ s = true := fun w h => hts w (List.mem_cons_of_mem _ h)
  have hown : s.vm.findClass "NameMergesModel" = some m.cls := findClass_of_methodNamed B.named
  have hlocks := B.notSynchronized
  have hK := hB.1
  have hS : va_S (md_A x g) s.heap s.heap [] := va_S.rf
  obtain ⟨H, hH⟩ : ∃ z : Heap, z = s.heap := ⟨_, rfl⟩
  rw [← hH] at hI
  have hS : va_S (md_A x g) s.heap H [] := by rw [hH]; exact va_S.rf
  have hl := lv_entry ([.ref x, .int q, .int u, .int v]) (n := 5) (Nat.le_of_ble_eq_true rfl)
  rw [lg_entry_eq, ← hH]
  generalize (lg_sl ([.ref x, .int q, .int u, .int v]) ++ List.replicate (5 - (lg_sl ([.ref x, .int q, .int u, .int v])).length) Slot.unset).toArray = ls at hl ⊢
  have hl : lv_has ls 5 [(0, .ref x), (1, .int q), (2, .int u), (3, .int v)] := hl
  refine lv_aload_n hx hb d_Md_dates_0 rfl (lv_at hl 0 rfl) ?_
  refine lv_aload_n hx hb d_Md_dates_1 rfl (lv_at hl 0 rfl) ?_
  refine lv_iload_n hx hb d_Md_dates_2 rfl (lv_at hl 1 rfl) ?_
  refine h_calli (va_runV (As := [.int q]) (rest := [.ref x]) ⟨hx, hb, hml, hown, htg⟩ (c_Md_isName l D cs N0 H x g i f q hsep hI n hn) (cwV 1 htg (gw_V (gw_mem (i := 1108) (by decide +kernel) rfl) (gw_mem (i := 1110) (by decide +kernel) rfl) (gw_mem (i := 19) (by decide +kernel) rfl) (gw_mem (i := 38) (by decide +kernel) rfl) (gw_mem (i := 1111) (by decide +kernel) rfl)) rfl rfl rfl (by decide +kernel) ⟨Nat.le_of_ble_eq_true rfl, Nat.le_of_ble_eq_true rfl⟩) ⟨hPre.blind, hx_recv hK (ci := 0) rfl hI.1, hPre.at hB hS hsep.A⟩ rfl rfl hl.1 rfl (lv_room (Nat.le_of_ble_eq_true rfl)) d_Md_dates_3 ⟨Nat.zero_le _, Nat.zero_le _⟩) hS (fun _ h => h) (fun r3 H locs hp hz hk hS => ?_)
  obtain ⟨hI, er3⟩ := hp
  refine lv_eqi (y := (bI (isN n q))) er3 ?_
  refine lv_iload_n hx hb d_Md_dates_6 rfl (lv_at hl 2 rfl) ?_
  refine h_calli (va_runS (As := [.int u]) (rest := [.int (bI (isN n q)), .ref x]) ⟨hx, hb, hml, hown, htg⟩ (c_Md_isDay l D cs N0 H x g i f u hsep hI) (cwS 1 htg (gw_S (gw_mem (i := 1112) (by decide +kernel) rfl) (gw_mem (i := 1113) (by decide +kernel) rfl) (gw_mem (i := 38) (by decide +kernel) rfl) (gw_mem (i := 1114) (by decide +kernel) rfl)) rfl rfl rfl (by decide +kernel) ⟨Nat.le_of_ble_eq_true rfl, Nat.le_of_ble_eq_true rfl⟩) ⟨hPre.blind, hPre.at hB hS hsep.A⟩ rfl rfl hl.1 rfl (lv_room (Nat.le_of_ble_eq_true rfl)) d_Md_dates_7 ⟨Nat.zero_le _, Nat.zero_le _⟩) hS (fun _ h => h) (fun r7 H locs hp hz hk hS => ?_)
  obtain ⟨hI, er7⟩ := hp
  refine lv_eqi (y := (bI (isD u))) er7 ?_
  refine lv_if_eq (x := (bI (isD u))) (tgt := 29) hx hb d_Md_dates_10 (by decide) (fun c10 => ?_) (fun c10 => ?_)
  · skip
    replace c10 : (isD u) = false := bI_0 c10
    refine lv_iconst (v := 0) hx hb d_Md_dates_29 (by decide) ?_
    refine lv_iconst (v := 1) hx hb d_Md_dates_30 (by decide) ?_
    refine h_calli (va_runV (As := [.int (bI (isN n q)), .int 0, .int 1]) (rest := []) ⟨hx, hb, hml, hown, htg⟩ (c_Md_goes l D cs N0 H x g i f (isN n q) false true hsep hI) (cwV 3 htg (gw_V (gw_mem (i := 1092) (by decide +kernel) rfl) (gw_mem (i := 1094) (by decide +kernel) rfl) (gw_mem (i := 18) (by decide +kernel) rfl) (gw_mem (i := 38) (by decide +kernel) rfl) (gw_mem (i := 1095) (by decide +kernel) rfl)) rfl rfl rfl (by decide +kernel) ⟨Nat.le_of_ble_eq_true rfl, Nat.le_of_ble_eq_true rfl⟩) ⟨hPre.blind, hx_recv hK (ci := 0) rfl hI.1, hPre.at hB hS hsep.A⟩ rfl rfl hl.1 rfl (lv_room (Nat.le_of_ble_eq_true rfl)) d_Md_dates_31 ⟨Nat.zero_le _, Nat.zero_le _⟩) hS (fun _ h => h) (fun r31 H locs hp hz hk hS => ?_)
    obtain ⟨hI, er31⟩ := hp
    refine lv_eqi (y := 0) (er31.trans (by simp [goB, bI])) ?_
    refine lv_if_ne (x := 0) (tgt := 39) hx hb d_Md_dates_34 (by decide) (fun c34 => ?_) (fun c34 => ?_)
    · exact absurd c34 (by decide)
    · skip
      refine lv_iconst (v := 0) hx hb d_Md_dates_37 (by decide) ?_
      exact W.zret (v := 0) hx hb hr (by decide) (fun t ht hW => ⟨⟨0, H, rfl, by dsimp only; have e1 : (isD u && isD v && !decide (v < u)) = false := (by first | (simp [c10]; done) | (simp [c10]; omega) | omega | simp_all); rw [e1]; rw [if_neg (show ¬ goB (isN n q) false true = true by simp [goB])]; exact ⟨hI, rfl⟩, ht⟩, hS.F ht⟩) hS.2.2 d_Md_dates_38
  · skip
    replace c10 : (isD u) = true := bI_1 c10
    refine lv_iload_n hx hb d_Md_dates_13 rfl (lv_at hl 3 rfl) ?_
    refine h_calli (va_runS (As := [.int v]) (rest := [.int (bI (isN n q)), .ref x]) ⟨hx, hb, hml, hown, htg⟩ (c_Md_isDay l D cs N0 H x g i f v hsep hI) (cwS 1 htg (gw_S (gw_mem (i := 1112) (by decide +kernel) rfl) (gw_mem (i := 1113) (by decide +kernel) rfl) (gw_mem (i := 38) (by decide +kernel) rfl) (gw_mem (i := 1114) (by decide +kernel) rfl)) rfl rfl rfl (by decide +kernel) ⟨Nat.le_of_ble_eq_true rfl, Nat.le_of_ble_eq_true rfl⟩) ⟨hPre.blind, hPre.at hB hS hsep.A⟩ rfl rfl hl.1 rfl (lv_room (Nat.le_of_ble_eq_true rfl)) d_Md_dates_14 ⟨Nat.zero_le _, Nat.zero_le _⟩) hS (fun _ h => h) (fun r14 H locs hp hz hk hS => ?_)
    obtain ⟨hI, er14⟩ := hp
    refine lv_eqi (y := (bI (isD v))) er14 ?_
    refine lv_if_eq (x := (bI (isD v))) (tgt := 29) hx hb d_Md_dates_17 (by decide) (fun c17 => ?_) (fun c17 => ?_)
    · skip
      replace c17 : (isD v) = false := bI_0 c17
      refine lv_iconst (v := 0) hx hb d_Md_dates_29 (by decide) ?_
      refine lv_iconst (v := 1) hx hb d_Md_dates_30 (by decide) ?_
      refine h_calli (va_runV (As := [.int (bI (isN n q)), .int 0, .int 1]) (rest := []) ⟨hx, hb, hml, hown, htg⟩ (c_Md_goes l D cs N0 H x g i f (isN n q) false true hsep hI) (cwV 3 htg (gw_V (gw_mem (i := 1092) (by decide +kernel) rfl) (gw_mem (i := 1094) (by decide +kernel) rfl) (gw_mem (i := 18) (by decide +kernel) rfl) (gw_mem (i := 38) (by decide +kernel) rfl) (gw_mem (i := 1095) (by decide +kernel) rfl)) rfl rfl rfl (by decide +kernel) ⟨Nat.le_of_ble_eq_true rfl, Nat.le_of_ble_eq_true rfl⟩) ⟨hPre.blind, hx_recv hK (ci := 0) rfl hI.1, hPre.at hB hS hsep.A⟩ rfl rfl hl.1 rfl (lv_room (Nat.le_of_ble_eq_true rfl)) d_Md_dates_31 ⟨Nat.zero_le _, Nat.zero_le _⟩) hS (fun _ h => h) (fun r31 H locs hp hz hk hS => ?_)
      obtain ⟨hI, er31⟩ := hp
      refine lv_eqi (y := 0) (er31.trans (by simp [goB, bI])) ?_
      refine lv_if_ne (x := 0) (tgt := 39) hx hb d_Md_dates_34 (by decide) (fun c34 => ?_) (fun c34 => ?_)
      · exact absurd c34 (by decide)
      · skip
        refine lv_iconst (v := 0) hx hb d_Md_dates_37 (by decide) ?_
        exact W.zret (v := 0) hx hb hr (by decide) (fun t ht hW => ⟨⟨0, H, rfl, by dsimp only; have e1 : (isD u && isD v && !decide (v < u)) = false := (by first | (simp [c10, c17]; done) | (simp [c10, c17]; omega) | omega | simp_all); rw [e1]; rw [if_neg (show ¬ goB (isN n q) false true = true by simp [goB])]; exact ⟨hI, rfl⟩, ht⟩, hS.F ht⟩) hS.2.2 d_Md_dates_38
    · skip
      replace c17 : (isD v) = true := bI_1 c17
      refine lv_iload_n hx hb d_Md_dates_20 rfl (lv_at hl 2 rfl) ?_
      refine lv_iload_n hx hb d_Md_dates_21 rfl (lv_at hl 3 rfl) ?_
      refine lv_icmp_gt (x := u) (y := v) (tgt := 29) hx hb d_Md_dates_22 (by decide) (fun c22 => ?_) (fun c22 => ?_)
      · skip
        refine lv_iconst (v := 0) hx hb d_Md_dates_29 (by decide) ?_
        refine lv_iconst (v := 1) hx hb d_Md_dates_30 (by decide) ?_
        refine h_calli (va_runV (As := [.int (bI (isN n q)), .int 0, .int 1]) (rest := []) ⟨hx, hb, hml, hown, htg⟩ (c_Md_goes l D cs N0 H x g i f (isN n q) false true hsep hI) (cwV 3 htg (gw_V (gw_mem (i := 1092) (by decide +kernel) rfl) (gw_mem (i := 1094) (by decide +kernel) rfl) (gw_mem (i := 18) (by decide +kernel) rfl) (gw_mem (i := 38) (by decide +kernel) rfl) (gw_mem (i := 1095) (by decide +kernel) rfl)) rfl rfl rfl (by decide +kernel) ⟨Nat.le_of_ble_eq_true rfl, Nat.le_of_ble_eq_true rfl⟩) ⟨hPre.blind, hx_recv hK (ci := 0) rfl hI.1, hPre.at hB hS hsep.A⟩ rfl rfl hl.1 rfl (lv_room (Nat.le_of_ble_eq_true rfl)) d_Md_dates_31 ⟨Nat.zero_le _, Nat.zero_le _⟩) hS (fun _ h => h) (fun r31 H locs hp hz hk hS => ?_)
        obtain ⟨hI, er31⟩ := hp
        refine lv_eqi (y := 0) (er31.trans (by simp [goB, bI])) ?_
        refine lv_if_ne (x := 0) (tgt := 39) hx hb d_Md_dates_34 (by decide) (fun c34 => ?_) (fun c34 => ?_)
        · exact absurd c34 (by decide)
        · skip
          refine lv_iconst (v := 0) hx hb d_Md_dates_37 (by decide) ?_
          exact W.zret (v := 0) hx hb hr (by decide) (fun t ht hW => ⟨⟨0, H, rfl, by dsimp only; have e1 : (isD u && isD v && !decide (v < u)) = false := (by first | (simp [c10, c17, c22]; done) | (simp [c10, c17, c22]; omega) | omega | simp_all); rw [e1]; rw [if_neg (show ¬ goB (isN n q) false true = true by simp [goB])]; exact ⟨hI, rfl⟩, ht⟩, hS.F ht⟩) hS.2.2 d_Md_dates_38
      · skip
        refine lv_iconst (v := 1) hx hb d_Md_dates_25 (by decide) ?_
        refine lv_goto (tgt := 30) hx hb d_Md_dates_26 (by decide) ?_
        refine lv_iconst (v := 1) hx hb d_Md_dates_30 (by decide) ?_
        refine h_calli (va_runV (As := [.int (bI (isN n q)), .int 1, .int 1]) (rest := []) ⟨hx, hb, hml, hown, htg⟩ (c_Md_goes l D cs N0 H x g i f (isN n q) true true hsep hI) (cwV 3 htg (gw_V (gw_mem (i := 1092) (by decide +kernel) rfl) (gw_mem (i := 1094) (by decide +kernel) rfl) (gw_mem (i := 18) (by decide +kernel) rfl) (gw_mem (i := 38) (by decide +kernel) rfl) (gw_mem (i := 1095) (by decide +kernel) rfl)) rfl rfl rfl (by decide +kernel) ⟨Nat.le_of_ble_eq_true rfl, Nat.le_of_ble_eq_true rfl⟩) ⟨hPre.blind, hx_recv hK (ci := 0) rfl hI.1, hPre.at hB hS hsep.A⟩ rfl rfl hl.1 rfl (lv_room (Nat.le_of_ble_eq_true rfl)) d_Md_dates_31 ⟨Nat.zero_le _, Nat.zero_le _⟩) hS (fun _ h => h) (fun r31 H locs hp hz hk hS => ?_)
        obtain ⟨hI, er31⟩ := hp
        refine lv_eqi (y := (bI (goB (isN n q) true true))) er31 ?_
        refine lv_if_ne (x := (bI (goB (isN n q) true true))) (tgt := 39) hx hb d_Md_dates_34 (by decide) (fun c34 => ?_) (fun c34 => ?_)
        · skip
          replace c34 : (goB (isN n q) true true) = true := bI_1 c34
          have hq : isN n q = true := by simpa [goB] using c34
          obtain ⟨ha, ea⟩ := isN_n hq (by omega)
          refine lv_aload_n hx hb d_Md_dates_39 rfl (lv_at hl 0 rfl) ?_
          refine hx_get (v := .ref (g 8)) hx hb htg iMd hown hK hI.1 rfl 11 (by decide) (htg _ (gw_mem (i := 1009) (by decide +kernel) rfl)) (fun _ h9 => h9) rfl d_Md_dates_40 ?_
          refine lv_iload_n hx hb d_Md_dates_43 rfl (lv_at hl 1 rfl) ?_
          refine lv_eqi (y := (nI (tn q))) ea ?_
          refine hx_iald hx hb hK 0 (hI.2 8 (by decide)) rfl (show vp_in (nI (tn q)) 24 from vp_in_nI (n := tn q) (by omega) (by decide)) d_Md_dates_44 ?_
          refine lv_eqi (y := (f 8 (tn q))) (show f 8 (nI (tn q)).toNatClampNeg = _ by rw [nI_clamp (by omega)]) ?_
          refine lv_iload_n hx hb d_Md_dates_45 rfl (lv_at hl 3 rfl) ?_
          refine lv_icmp_ne (x := (f 8 (tn q))) (y := v) (tgt := 59) hx hb d_Md_dates_46 (by decide) (fun c46 => ?_) (fun c46 => ?_)
          · skip
            refine lv_iconst (v := 1) hx hb d_Md_dates_59 (by decide) ?_
            refine lv_goto (tgt := 64) hx hb d_Md_dates_60 (by decide) ?_
            refine lv_istore (lv' := [(4, .int 1), (0, .ref x), (1, .int q), (2, .int u), (3, .int v)]) hx hb d_Md_dates_64 hl (by decide) rfl (fun ls hl => ?_)
            refine lv_aload_n hx hb d_Md_dates_66 rfl (lv_at hl 1 rfl) ?_
            refine hx_get (v := .ref (g 7)) hx hb htg iMd hown hK hI.1 rfl 10 (by decide) (htg _ (gw_mem (i := 1008) (by decide +kernel) rfl)) (fun _ h9 => h9) rfl d_Md_dates_67 ?_
            refine lv_iload_n hx hb d_Md_dates_70 rfl (lv_at hl 2 rfl) ?_
            refine lv_eqi (y := (nI (tn q))) ea ?_
            refine lv_iload_n hx hb d_Md_dates_71 rfl (lv_at hl 3 rfl) ?_
            refine hx_iast hx hb hK hS (Or.inr ⟨7, by decide, rfl⟩) 0 (hI.2 7 (by decide)) rfl (show vp_in (nI (tn q)) 24 from vp_in_nI (n := tn q) (by omega) (by decide)) d_Md_dates_72 (fun H locs hat hz ho hS => ?_)
            replace hI : md_I D cs H x g (upd i 0 (goV (isN n q) true true)) (updA f 7 (tn q) (u)) := md_I.puta hI hsep (by decide) (by rw [show ((nI (tn q)) : Int32).toNatClampNeg = tn q from nI_clamp (n := tn q) (by omega)] at hat; exact hat) ho
            refine lv_aload_n hx hb d_Md_dates_73 rfl (lv_at hl 1 rfl) ?_
            refine hx_get (v := .ref (g 8)) hx hb htg iMd hown hK hI.1 rfl 11 (by decide) (htg _ (gw_mem (i := 1009) (by decide +kernel) rfl)) (fun _ h9 => h9) rfl d_Md_dates_74 ?_
            refine lv_iload_n hx hb d_Md_dates_77 rfl (lv_at hl 2 rfl) ?_
            refine lv_eqi (y := (nI (tn q))) ea ?_
            refine lv_iload_n hx hb d_Md_dates_78 rfl (lv_at hl 4 rfl) ?_
            refine hx_iast hx hb hK hS (Or.inr ⟨8, by decide, rfl⟩) 0 (hI.2 8 (by decide)) rfl (show vp_in (nI (tn q)) 24 from vp_in_nI (n := tn q) (by omega) (by decide)) d_Md_dates_79 (fun H locs hat hz ho hS => ?_)
            replace hI : md_I D cs H x g (upd i 0 (goV (isN n q) true true)) (updA (updA f 7 (tn q) (u)) 8 (tn q) (v)) := md_I.puta hI hsep (by decide) (by rw [show ((nI (tn q)) : Int32).toNatClampNeg = tn q from nI_clamp (n := tn q) (by omega)] at hat; exact hat) ho
            refine lv_iload hx hb d_Md_dates_80 (lv_at hl 0 rfl) ?_
            exact W.zret (v := 1) hx hb hr (by decide) (fun t ht hW => ⟨⟨1, H, rfl, by dsimp only; have e1 : (isD u && isD v && !decide (v < u)) = true := (by first | (simp [c10, c17, c22, c34, c46]; done) | (simp [c10, c17, c22, c34, c46]; omega) | omega | simp_all); rw [e1]; rw [if_pos c34]; exact ⟨hI, by simp [bI, c46]⟩, ht⟩, hS.F ht⟩) hS.2.2 d_Md_dates_82
          · skip
            refine lv_aload_n hx hb d_Md_dates_49 rfl (lv_at hl 0 rfl) ?_
            refine hx_get (v := .ref (g 7)) hx hb htg iMd hown hK hI.1 rfl 10 (by decide) (htg _ (gw_mem (i := 1008) (by decide +kernel) rfl)) (fun _ h9 => h9) rfl d_Md_dates_50 ?_
            refine lv_iload_n hx hb d_Md_dates_53 rfl (lv_at hl 1 rfl) ?_
            refine lv_eqi (y := (nI (tn q))) ea ?_
            refine hx_iald hx hb hK 0 (hI.2 7 (by decide)) rfl (show vp_in (nI (tn q)) 24 from vp_in_nI (n := tn q) (by omega) (by decide)) d_Md_dates_54 ?_
            refine lv_eqi (y := (f 7 (tn q))) (show f 7 (nI (tn q)).toNatClampNeg = _ by rw [nI_clamp (by omega)]) ?_
            refine lv_iload_n hx hb d_Md_dates_55 rfl (lv_at hl 2 rfl) ?_
            refine lv_icmp_eq (x := (f 7 (tn q))) (y := u) (tgt := 63) hx hb d_Md_dates_56 (by decide) (fun c56 => ?_) (fun c56 => ?_)
            · skip
              refine lv_iconst (v := 0) hx hb d_Md_dates_63 (by decide) ?_
              refine lv_istore (lv' := [(4, .int 0), (0, .ref x), (1, .int q), (2, .int u), (3, .int v)]) hx hb d_Md_dates_64 hl (by decide) rfl (fun ls hl => ?_)
              refine lv_aload_n hx hb d_Md_dates_66 rfl (lv_at hl 1 rfl) ?_
              refine hx_get (v := .ref (g 7)) hx hb htg iMd hown hK hI.1 rfl 10 (by decide) (htg _ (gw_mem (i := 1008) (by decide +kernel) rfl)) (fun _ h9 => h9) rfl d_Md_dates_67 ?_
              refine lv_iload_n hx hb d_Md_dates_70 rfl (lv_at hl 2 rfl) ?_
              refine lv_eqi (y := (nI (tn q))) ea ?_
              refine lv_iload_n hx hb d_Md_dates_71 rfl (lv_at hl 3 rfl) ?_
              refine hx_iast hx hb hK hS (Or.inr ⟨7, by decide, rfl⟩) 0 (hI.2 7 (by decide)) rfl (show vp_in (nI (tn q)) 24 from vp_in_nI (n := tn q) (by omega) (by decide)) d_Md_dates_72 (fun H locs hat hz ho hS => ?_)
              replace hI : md_I D cs H x g (upd i 0 (goV (isN n q) true true)) (updA f 7 (tn q) (u)) := md_I.puta hI hsep (by decide) (by rw [show ((nI (tn q)) : Int32).toNatClampNeg = tn q from nI_clamp (n := tn q) (by omega)] at hat; exact hat) ho
              refine lv_aload_n hx hb d_Md_dates_73 rfl (lv_at hl 1 rfl) ?_
              refine hx_get (v := .ref (g 8)) hx hb htg iMd hown hK hI.1 rfl 11 (by decide) (htg _ (gw_mem (i := 1009) (by decide +kernel) rfl)) (fun _ h9 => h9) rfl d_Md_dates_74 ?_
              refine lv_iload_n hx hb d_Md_dates_77 rfl (lv_at hl 2 rfl) ?_
              refine lv_eqi (y := (nI (tn q))) ea ?_
              refine lv_iload_n hx hb d_Md_dates_78 rfl (lv_at hl 4 rfl) ?_
              refine hx_iast hx hb hK hS (Or.inr ⟨8, by decide, rfl⟩) 0 (hI.2 8 (by decide)) rfl (show vp_in (nI (tn q)) 24 from vp_in_nI (n := tn q) (by omega) (by decide)) d_Md_dates_79 (fun H locs hat hz ho hS => ?_)
              replace hI : md_I D cs H x g (upd i 0 (goV (isN n q) true true)) (updA (updA f 7 (tn q) (u)) 8 (tn q) (v)) := md_I.puta hI hsep (by decide) (by rw [show ((nI (tn q)) : Int32).toNatClampNeg = tn q from nI_clamp (n := tn q) (by omega)] at hat; exact hat) ho
              refine lv_iload hx hb d_Md_dates_80 (lv_at hl 0 rfl) ?_
              exact W.zret (v := 0) hx hb hr (by decide) (fun t ht hW => ⟨⟨0, H, rfl, by dsimp only; have e1 : (isD u && isD v && !decide (v < u)) = true := (by first | (simp [c10, c17, c22, c34, c46, c56]; done) | (simp [c10, c17, c22, c34, c46, c56]; omega) | omega | simp_all); rw [e1]; rw [if_pos c34]; exact ⟨hI, by simp [bI, c46, c56]⟩, ht⟩, hS.F ht⟩) hS.2.2 d_Md_dates_82
            · skip
              refine lv_iconst (v := 1) hx hb d_Md_dates_59 (by decide) ?_
              refine lv_goto (tgt := 64) hx hb d_Md_dates_60 (by decide) ?_
              refine lv_istore (lv' := [(4, .int 1), (0, .ref x), (1, .int q), (2, .int u), (3, .int v)]) hx hb d_Md_dates_64 hl (by decide) rfl (fun ls hl => ?_)
              refine lv_aload_n hx hb d_Md_dates_66 rfl (lv_at hl 1 rfl) ?_
              refine hx_get (v := .ref (g 7)) hx hb htg iMd hown hK hI.1 rfl 10 (by decide) (htg _ (gw_mem (i := 1008) (by decide +kernel) rfl)) (fun _ h9 => h9) rfl d_Md_dates_67 ?_
              refine lv_iload_n hx hb d_Md_dates_70 rfl (lv_at hl 2 rfl) ?_
              refine lv_eqi (y := (nI (tn q))) ea ?_
              refine lv_iload_n hx hb d_Md_dates_71 rfl (lv_at hl 3 rfl) ?_
              refine hx_iast hx hb hK hS (Or.inr ⟨7, by decide, rfl⟩) 0 (hI.2 7 (by decide)) rfl (show vp_in (nI (tn q)) 24 from vp_in_nI (n := tn q) (by omega) (by decide)) d_Md_dates_72 (fun H locs hat hz ho hS => ?_)
              replace hI : md_I D cs H x g (upd i 0 (goV (isN n q) true true)) (updA f 7 (tn q) (u)) := md_I.puta hI hsep (by decide) (by rw [show ((nI (tn q)) : Int32).toNatClampNeg = tn q from nI_clamp (n := tn q) (by omega)] at hat; exact hat) ho
              refine lv_aload_n hx hb d_Md_dates_73 rfl (lv_at hl 1 rfl) ?_
              refine hx_get (v := .ref (g 8)) hx hb htg iMd hown hK hI.1 rfl 11 (by decide) (htg _ (gw_mem (i := 1009) (by decide +kernel) rfl)) (fun _ h9 => h9) rfl d_Md_dates_74 ?_
              refine lv_iload_n hx hb d_Md_dates_77 rfl (lv_at hl 2 rfl) ?_
              refine lv_eqi (y := (nI (tn q))) ea ?_
              refine lv_iload_n hx hb d_Md_dates_78 rfl (lv_at hl 4 rfl) ?_
              refine hx_iast hx hb hK hS (Or.inr ⟨8, by decide, rfl⟩) 0 (hI.2 8 (by decide)) rfl (show vp_in (nI (tn q)) 24 from vp_in_nI (n := tn q) (by omega) (by decide)) d_Md_dates_79 (fun H locs hat hz ho hS => ?_)
              replace hI : md_I D cs H x g (upd i 0 (goV (isN n q) true true)) (updA (updA f 7 (tn q) (u)) 8 (tn q) (v)) := md_I.puta hI hsep (by decide) (by rw [show ((nI (tn q)) : Int32).toNatClampNeg = tn q from nI_clamp (n := tn q) (by omega)] at hat; exact hat) ho
              refine lv_iload hx hb d_Md_dates_80 (lv_at hl 0 rfl) ?_
              exact W.zret (v := 1) hx hb hr (by decide) (fun t ht hW => ⟨⟨1, H, rfl, by dsimp only; have e1 : (isD u && isD v && !decide (v < u)) = true := (by first | (simp [c10, c17, c22, c34, c46, c56]; done) | (simp [c10, c17, c22, c34, c46, c56]; omega) | omega | simp_all); rw [e1]; rw [if_pos c34]; exact ⟨hI, by simp [bI, c46, c56]⟩, ht⟩, hS.F ht⟩) hS.2.2 d_Md_dates_82
        · skip
          replace c34 : (goB (isN n q) true true) = false := bI_0 c34
          refine lv_iconst (v := 0) hx hb d_Md_dates_37 (by decide) ?_
          exact W.zret (v := 0) hx hb hr (by decide) (fun t ht hW => ⟨⟨0, H, rfl, by dsimp only; have e1 : (isD u && isD v && !decide (v < u)) = true := (by first | (simp [c10, c17, c22, c34]; done) | (simp [c10, c17, c22, c34]; omega) | omega | simp_all); rw [e1]; rw [if_neg (show ¬ goB (isN n q) true true = true by rw [c34]; decide)]; exact ⟨hI, rfl⟩, ht⟩, hS.F ht⟩) hS.2.2 d_Md_dates_38
def y_Md_decide : MethodName := ⟨"NameMergesModel", "decide", "(III)I"⟩
abbrev w_Md_decide : List Cond := Cond.code y_Md_decide prog_7_method_19_code 5 (Option.some Jvm.ClassFile.FieldType.int) :: gw
theorem d_Md_decide_0 : decode prog_7_method_19_code 0 = .ok (.aload_n 0, 1) := by decide +kernel
theorem d_Md_decide_1 : decode prog_7_method_19_code 1 = .ok (.aload_n 0, 1) := by decide +kernel
theorem d_Md_decide_2 : decode prog_7_method_19_code 2 = .ok (.iload_n 1, 1) := by decide +kernel
theorem d_Md_decide_3 : decode prog_7_method_19_code 3 = .ok (.invokevirtual 92, 3) := by decide +kernel
theorem d_Md_decide_6 : decode prog_7_method_19_code 6 = .ok (.ifCond .eq 15, 3) := by decide +kernel
theorem d_Md_decide_9 : decode prog_7_method_19_code 9 = .ok (.aload_n 0, 1) := by decide +kernel
theorem d_Md_decide_10 : decode prog_7_method_19_code 10 = .ok (.iload_n 2, 1) := by decide +kernel
theorem d_Md_decide_11 : decode prog_7_method_19_code 11 = .ok (.invokevirtual 92, 3) := by decide +kernel
theorem d_Md_decide_14 : decode prog_7_method_19_code 14 = .ok (.ifCond .eq 7, 3) := by decide +kernel
theorem d_Md_decide_17 : decode prog_7_method_19_code 17 = .ok (.iconst 1, 1) := by decide +kernel
theorem d_Md_decide_18 : decode prog_7_method_19_code 18 = .ok (.goto 4, 3) := by decide +kernel
theorem d_Md_decide_21 : decode prog_7_method_19_code 21 = .ok (.iconst 0, 1) := by decide +kernel
theorem d_Md_decide_22 : decode prog_7_method_19_code 22 = .ok (.iload_n 1, 1) := by decide +kernel
theorem d_Md_decide_23 : decode prog_7_method_19_code 23 = .ok (.iload_n 2, 1) := by decide +kernel
theorem d_Md_decide_24 : decode prog_7_method_19_code 24 = .ok (.if_icmp .eq 16, 3) := by decide +kernel
theorem d_Md_decide_27 : decode prog_7_method_19_code 27 = .ok (.iload_n 3, 1) := by decide +kernel
theorem d_Md_decide_28 : decode prog_7_method_19_code 28 = .ok (.ifCond .lt 12, 3) := by decide +kernel
theorem d_Md_decide_31 : decode prog_7_method_19_code 31 = .ok (.iload_n 3, 1) := by decide +kernel
theorem d_Md_decide_32 : decode prog_7_method_19_code 32 = .ok (.iconst 2, 1) := by decide +kernel
theorem d_Md_decide_33 : decode prog_7_method_19_code 33 = .ok (.if_icmp .gt 7, 3) := by decide +kernel
theorem d_Md_decide_36 : decode prog_7_method_19_code 36 = .ok (.iconst 1, 1) := by decide +kernel
theorem d_Md_decide_37 : decode prog_7_method_19_code 37 = .ok (.goto 4, 3) := by decide +kernel
theorem d_Md_decide_40 : decode prog_7_method_19_code 40 = .ok (.iconst 0, 1) := by decide +kernel
theorem d_Md_decide_41 : decode prog_7_method_19_code 41 = .ok (.iconst 1, 1) := by decide +kernel
theorem d_Md_decide_42 : decode prog_7_method_19_code 42 = .ok (.invokevirtual 88, 3) := by decide +kernel
theorem d_Md_decide_45 : decode prog_7_method_19_code 45 = .ok (.ifCond .ne 5, 3) := by decide +kernel
theorem d_Md_decide_48 : decode prog_7_method_19_code 48 = .ok (.iconst 0, 1) := by decide +kernel
theorem d_Md_decide_49 : decode prog_7_method_19_code 49 = .ok (.ireturn, 1) := by decide +kernel
theorem d_Md_decide_50 : decode prog_7_method_19_code 50 = .ok (.aload_n 0, 1) := by decide +kernel
theorem d_Md_decide_51 : decode prog_7_method_19_code 51 = .ok (.getfield 37, 3) := by decide +kernel
theorem d_Md_decide_54 : decode prog_7_method_19_code 54 = .ok (.bipush 24, 2) := by decide +kernel
theorem d_Md_decide_56 : decode prog_7_method_19_code 56 = .ok (.iload_n 1, 1) := by decide +kernel
theorem d_Md_decide_57 : decode prog_7_method_19_code 57 = .ok (.imul, 1) := by decide +kernel
theorem d_Md_decide_58 : decode prog_7_method_19_code 58 = .ok (.iload_n 2, 1) := by decide +kernel
theorem d_Md_decide_59 : decode prog_7_method_19_code 59 = .ok (.iadd, 1) := by decide +kernel
theorem d_Md_decide_60 : decode prog_7_method_19_code 60 = .ok (.iaload, 1) := by decide +kernel
theorem d_Md_decide_61 : decode prog_7_method_19_code 61 = .ok (.istore 4, 2) := by decide +kernel
theorem d_Md_decide_63 : decode prog_7_method_19_code 63 = .ok (.aload_n 0, 1) := by decide +kernel
theorem d_Md_decide_64 : decode prog_7_method_19_code 64 = .ok (.getfield 37, 3) := by decide +kernel
theorem d_Md_decide_67 : decode prog_7_method_19_code 67 = .ok (.bipush 24, 2) := by decide +kernel
theorem d_Md_decide_69 : decode prog_7_method_19_code 69 = .ok (.iload_n 1, 1) := by decide +kernel
theorem d_Md_decide_70 : decode prog_7_method_19_code 70 = .ok (.imul, 1) := by decide +kernel
theorem d_Md_decide_71 : decode prog_7_method_19_code 71 = .ok (.iload_n 2, 1) := by decide +kernel
theorem d_Md_decide_72 : decode prog_7_method_19_code 72 = .ok (.iadd, 1) := by decide +kernel
theorem d_Md_decide_73 : decode prog_7_method_19_code 73 = .ok (.iload_n 3, 1) := by decide +kernel
theorem d_Md_decide_74 : decode prog_7_method_19_code 74 = .ok (.iastore, 1) := by decide +kernel
theorem d_Md_decide_75 : decode prog_7_method_19_code 75 = .ok (.aload_n 0, 1) := by decide +kernel
theorem d_Md_decide_76 : decode prog_7_method_19_code 76 = .ok (.getfield 37, 3) := by decide +kernel
theorem d_Md_decide_79 : decode prog_7_method_19_code 79 = .ok (.bipush 24, 2) := by decide +kernel
theorem d_Md_decide_81 : decode prog_7_method_19_code 81 = .ok (.iload_n 2, 1) := by decide +kernel
theorem d_Md_decide_82 : decode prog_7_method_19_code 82 = .ok (.imul, 1) := by decide +kernel
theorem d_Md_decide_83 : decode prog_7_method_19_code 83 = .ok (.iload_n 1, 1) := by decide +kernel
theorem d_Md_decide_84 : decode prog_7_method_19_code 84 = .ok (.iadd, 1) := by decide +kernel
theorem d_Md_decide_85 : decode prog_7_method_19_code 85 = .ok (.iload_n 3, 1) := by decide +kernel
theorem d_Md_decide_86 : decode prog_7_method_19_code 86 = .ok (.iastore, 1) := by decide +kernel
theorem d_Md_decide_87 : decode prog_7_method_19_code 87 = .ok (.iload 4, 2) := by decide +kernel
theorem d_Md_decide_89 : decode prog_7_method_19_code 89 = .ok (.ireturn, 1) := by decide +kernel
set_option maxHeartbeats 4000000 in
set_option maxRecDepth 100000 in
theorem c_Md_decide (l : Launch) (D : va_G) (cs : Nat → ClassId) (N0 : Nat) (H : Heap) (x : Nat) (g : Nat → Nat) (i : Nat → Int32) (f : Nat → Nat → Int32) (qa qb kd : Int32) (hsep : md_sep N0 x g) (hI : md_I D cs H x g i f) (n : Nat) (hn : i 2 = nI n) (hn24 : n ≤ 24) : Met l y_Md_decide w_Md_decide ({ frames := 1, cells := 0, slots := 0, locals := 23 }) (hPre D cs N0 [.ref x, .int qa, .int qb, .int kd] H) (hQi (fun r H' => if goB (isN n qa && isN n qb) (!decide (qa = qb) && !decide (kd < 0) && !decide (2 < kd)) true = true then (md_I D cs H' x g (upd i 0 (goV (isN n qa && isN n qb) (!decide (qa = qb) && !decide (kd < 0) && !decide (2 < kd)) true)) (updA (updA f 9 (24 * tn qa + tn qb) kd) 9 (24 * tn qb + tn qa) kd) ∧ r = f 9 (24 * tn qa + tn qb)) else (md_I D cs H' x g (upd i 0 (goV (isN n qa && isN n qb) (!decide (qa = qb) && !decide (kd < 0) && !decide (2 < kd)) true)) f ∧ r = 0)) (md_A x g)) 0 0 (md_A x g) := by
  refine Met.ofW (cc := prog_7_method_19_code) (maxL := 5) (ret := (Option.some Jvm.ClassFile.FieldType.int)) (by decide) rfl ?_
  intro p e s m args below meth c s₁ B hml hv
  obtain ⟨rfl, rfl, hB⟩ := hv
  have hx := B.exec
  have hb := B.bytes
  have hr := B.returns
  have hts := atoms_spec (ws := w_Md_decide) B.pre
  have htg : ∀ w ∈ gw, w.before _ s = true := fun w h => hts w (List.mem_cons_of_mem _ h)
  have hown : s.vm.findClass "NameMergesModel" = some m.cls := findClass_of_methodNamed B.named
  have hlocks := B.notSynchronized
  have hK := hB.1
  have hS : va_S (md_A x g) s.heap s.heap [] := va_S.rf
  obtain ⟨H, hH⟩ : ∃ z : Heap, z = s.heap := ⟨_, rfl⟩
  rw [← hH] at hI
  have hS : va_S (md_A x g) s.heap H [] := by rw [hH]; exact va_S.rf
  have hl := lv_entry ([.ref x, .int qa, .int qb, .int kd]) (n := 5) (Nat.le_of_ble_eq_true rfl)
  rw [lg_entry_eq, ← hH]
  generalize (lg_sl ([.ref x, .int qa, .int qb, .int kd]) ++ List.replicate (5 - (lg_sl ([.ref x, .int qa, .int qb, .int kd])).length) Slot.unset).toArray = ls at hl ⊢
  have hl : lv_has ls 5 [(0, .ref x), (1, .int qa), (2, .int qb), (3, .int kd)] := hl
  refine lv_aload_n hx hb d_Md_decide_0 rfl (lv_at hl 0 rfl) ?_
  refine lv_aload_n hx hb d_Md_decide_1 rfl (lv_at hl 0 rfl) ?_
  refine lv_iload_n hx hb d_Md_decide_2 rfl (lv_at hl 1 rfl) ?_
  refine h_calli (va_runV (As := [.int qa]) (rest := [.ref x]) ⟨hx, hb, hml, hown, htg⟩ (c_Md_isName l D cs N0 H x g i f qa hsep hI n hn) (cwV 1 htg (gw_V (gw_mem (i := 1108) (by decide +kernel) rfl) (gw_mem (i := 1110) (by decide +kernel) rfl) (gw_mem (i := 19) (by decide +kernel) rfl) (gw_mem (i := 38) (by decide +kernel) rfl) (gw_mem (i := 1111) (by decide +kernel) rfl)) rfl rfl rfl (by decide +kernel) ⟨Nat.le_of_ble_eq_true rfl, Nat.le_of_ble_eq_true rfl⟩) ⟨hPre.blind, hx_recv hK (ci := 0) rfl hI.1, hPre.at hB hS hsep.A⟩ rfl rfl hl.1 rfl (lv_room (Nat.le_of_ble_eq_true rfl)) d_Md_decide_3 ⟨Nat.zero_le _, Nat.zero_le _⟩) hS (fun _ h => h) (fun r3 H locs hp hz hk hS => ?_)
  obtain ⟨hI, er3⟩ := hp
  refine lv_eqi (y := (bI (isN n qa))) er3 ?_
  refine lv_if_eq (x := (bI (isN n qa))) (tgt := 21) hx hb d_Md_decide_6 (by decide) (fun c6 => ?_) (fun c6 => ?_)
  · skip
    replace c6 : (isN n qa) = false := bI_0 c6
    refine lv_iconst (v := 0) hx hb d_Md_decide_21 (by decide) ?_
    refine lv_iload_n hx hb d_Md_decide_22 rfl (lv_at hl 1 rfl) ?_
    refine lv_iload_n hx hb d_Md_decide_23 rfl (lv_at hl 2 rfl) ?_
    refine lv_icmp_eq (x := qa) (y := qb) (tgt := 40) hx hb d_Md_decide_24 (by decide) (fun c24 => ?_) (fun c24 => ?_)
    · skip
      refine lv_iconst (v := 0) hx hb d_Md_decide_40 (by decide) ?_
      refine lv_iconst (v := 1) hx hb d_Md_decide_41 (by decide) ?_
      refine h_calli (va_runV (As := [.int 0, .int 0, .int 1]) (rest := []) ⟨hx, hb, hml, hown, htg⟩ (c_Md_goes l D cs N0 H x g i f false false true hsep hI) (cwV 3 htg (gw_V (gw_mem (i := 1092) (by decide +kernel) rfl) (gw_mem (i := 1094) (by decide +kernel) rfl) (gw_mem (i := 18) (by decide +kernel) rfl) (gw_mem (i := 38) (by decide +kernel) rfl) (gw_mem (i := 1095) (by decide +kernel) rfl)) rfl rfl rfl (by decide +kernel) ⟨Nat.le_of_ble_eq_true rfl, Nat.le_of_ble_eq_true rfl⟩) ⟨hPre.blind, hx_recv hK (ci := 0) rfl hI.1, hPre.at hB hS hsep.A⟩ rfl rfl hl.1 rfl (lv_room (Nat.le_of_ble_eq_true rfl)) d_Md_decide_42 ⟨Nat.zero_le _, Nat.zero_le _⟩) hS (fun _ h => h) (fun r42 H locs hp hz hk hS => ?_)
      obtain ⟨hI, er42⟩ := hp
      replace hI : md_I D cs H x g (upd i 0 1) f := hI
      refine lv_eqi (y := 0) er42 ?_
      refine lv_if_ne (x := 0) (tgt := 50) hx hb d_Md_decide_45 (by decide) (fun c45 => ?_) (fun c45 => ?_)
      · exact absurd c45 (by decide)
      · skip
        refine lv_iconst (v := 0) hx hb d_Md_decide_48 (by decide) ?_
        exact W.iret (v := 0) hx hb hr (fun t ht hW => ⟨⟨0, H, rfl, by dsimp only; have e0 : (isN n qa && isN n qb) = false := (by first | (simp [c6, c24]; done) | (simp [c6, c24]; omega) | omega | simp_all); have e1 : (!decide (qa = qb) && !decide (kd < 0) && !decide (2 < kd)) = false := (by first | (simp [c6, c24]; done) | (simp [c6, c24]; omega) | omega | simp_all); rw [e0, e1]; rw [if_neg (show ¬ goB false false true = true by simp [goB])]; exact ⟨hI, rfl⟩, ht⟩, hS.F ht⟩) hS.2.2 d_Md_decide_49
    · skip
      refine lv_iload_n hx hb d_Md_decide_27 rfl (lv_at hl 3 rfl) ?_
      refine lv_if_lt (x := kd) (tgt := 40) hx hb d_Md_decide_28 (by decide) (fun c28 => ?_) (fun c28 => ?_)
      · skip
        refine lv_iconst (v := 0) hx hb d_Md_decide_40 (by decide) ?_
        refine lv_iconst (v := 1) hx hb d_Md_decide_41 (by decide) ?_
        refine h_calli (va_runV (As := [.int 0, .int 0, .int 1]) (rest := []) ⟨hx, hb, hml, hown, htg⟩ (c_Md_goes l D cs N0 H x g i f false false true hsep hI) (cwV 3 htg (gw_V (gw_mem (i := 1092) (by decide +kernel) rfl) (gw_mem (i := 1094) (by decide +kernel) rfl) (gw_mem (i := 18) (by decide +kernel) rfl) (gw_mem (i := 38) (by decide +kernel) rfl) (gw_mem (i := 1095) (by decide +kernel) rfl)) rfl rfl rfl (by decide +kernel) ⟨Nat.le_of_ble_eq_true rfl, Nat.le_of_ble_eq_true rfl⟩) ⟨hPre.blind, hx_recv hK (ci := 0) rfl hI.1, hPre.at hB hS hsep.A⟩ rfl rfl hl.1 rfl (lv_room (Nat.le_of_ble_eq_true rfl)) d_Md_decide_42 ⟨Nat.zero_le _, Nat.zero_le _⟩) hS (fun _ h => h) (fun r42 H locs hp hz hk hS => ?_)
        obtain ⟨hI, er42⟩ := hp
        replace hI : md_I D cs H x g (upd i 0 1) f := hI
        refine lv_eqi (y := 0) er42 ?_
        refine lv_if_ne (x := 0) (tgt := 50) hx hb d_Md_decide_45 (by decide) (fun c45 => ?_) (fun c45 => ?_)
        · exact absurd c45 (by decide)
        · skip
          refine lv_iconst (v := 0) hx hb d_Md_decide_48 (by decide) ?_
          exact W.iret (v := 0) hx hb hr (fun t ht hW => ⟨⟨0, H, rfl, by dsimp only; have e0 : (isN n qa && isN n qb) = false := (by first | (simp [c6, c24, c28]; done) | (simp [c6, c24, c28]; omega) | omega | simp_all); have e1 : (!decide (qa = qb) && !decide (kd < 0) && !decide (2 < kd)) = false := (by first | (simp [c6, c24, c28]; done) | (simp [c6, c24, c28]; omega) | omega | simp_all); rw [e0, e1]; rw [if_neg (show ¬ goB false false true = true by simp [goB])]; exact ⟨hI, rfl⟩, ht⟩, hS.F ht⟩) hS.2.2 d_Md_decide_49
      · skip
        refine lv_iload_n hx hb d_Md_decide_31 rfl (lv_at hl 3 rfl) ?_
        refine lv_iconst (v := 2) hx hb d_Md_decide_32 (by decide) ?_
        refine lv_icmp_gt (x := kd) (y := 2) (tgt := 40) hx hb d_Md_decide_33 (by decide) (fun c33 => ?_) (fun c33 => ?_)
        · skip
          refine lv_iconst (v := 0) hx hb d_Md_decide_40 (by decide) ?_
          refine lv_iconst (v := 1) hx hb d_Md_decide_41 (by decide) ?_
          refine h_calli (va_runV (As := [.int 0, .int 0, .int 1]) (rest := []) ⟨hx, hb, hml, hown, htg⟩ (c_Md_goes l D cs N0 H x g i f false false true hsep hI) (cwV 3 htg (gw_V (gw_mem (i := 1092) (by decide +kernel) rfl) (gw_mem (i := 1094) (by decide +kernel) rfl) (gw_mem (i := 18) (by decide +kernel) rfl) (gw_mem (i := 38) (by decide +kernel) rfl) (gw_mem (i := 1095) (by decide +kernel) rfl)) rfl rfl rfl (by decide +kernel) ⟨Nat.le_of_ble_eq_true rfl, Nat.le_of_ble_eq_true rfl⟩) ⟨hPre.blind, hx_recv hK (ci := 0) rfl hI.1, hPre.at hB hS hsep.A⟩ rfl rfl hl.1 rfl (lv_room (Nat.le_of_ble_eq_true rfl)) d_Md_decide_42 ⟨Nat.zero_le _, Nat.zero_le _⟩) hS (fun _ h => h) (fun r42 H locs hp hz hk hS => ?_)
          obtain ⟨hI, er42⟩ := hp
          replace hI : md_I D cs H x g (upd i 0 1) f := hI
          refine lv_eqi (y := 0) er42 ?_
          refine lv_if_ne (x := 0) (tgt := 50) hx hb d_Md_decide_45 (by decide) (fun c45 => ?_) (fun c45 => ?_)
          · exact absurd c45 (by decide)
          · skip
            refine lv_iconst (v := 0) hx hb d_Md_decide_48 (by decide) ?_
            exact W.iret (v := 0) hx hb hr (fun t ht hW => ⟨⟨0, H, rfl, by dsimp only; have e0 : (isN n qa && isN n qb) = false := (by first | (simp [c6, c24, c28, c33]; done) | (simp [c6, c24, c28, c33]; omega) | omega | simp_all); have e1 : (!decide (qa = qb) && !decide (kd < 0) && !decide (2 < kd)) = false := (by first | (simp [c6, c24, c28, c33]; done) | (simp [c6, c24, c28, c33]; omega) | omega | simp_all); rw [e0, e1]; rw [if_neg (show ¬ goB false false true = true by simp [goB])]; exact ⟨hI, rfl⟩, ht⟩, hS.F ht⟩) hS.2.2 d_Md_decide_49
        · skip
          refine lv_iconst (v := 1) hx hb d_Md_decide_36 (by decide) ?_
          refine lv_goto (tgt := 41) hx hb d_Md_decide_37 (by decide) ?_
          refine lv_iconst (v := 1) hx hb d_Md_decide_41 (by decide) ?_
          refine h_calli (va_runV (As := [.int 0, .int 1, .int 1]) (rest := []) ⟨hx, hb, hml, hown, htg⟩ (c_Md_goes l D cs N0 H x g i f false true true hsep hI) (cwV 3 htg (gw_V (gw_mem (i := 1092) (by decide +kernel) rfl) (gw_mem (i := 1094) (by decide +kernel) rfl) (gw_mem (i := 18) (by decide +kernel) rfl) (gw_mem (i := 38) (by decide +kernel) rfl) (gw_mem (i := 1095) (by decide +kernel) rfl)) rfl rfl rfl (by decide +kernel) ⟨Nat.le_of_ble_eq_true rfl, Nat.le_of_ble_eq_true rfl⟩) ⟨hPre.blind, hx_recv hK (ci := 0) rfl hI.1, hPre.at hB hS hsep.A⟩ rfl rfl hl.1 rfl (lv_room (Nat.le_of_ble_eq_true rfl)) d_Md_decide_42 ⟨Nat.zero_le _, Nat.zero_le _⟩) hS (fun _ h => h) (fun r42 H locs hp hz hk hS => ?_)
          obtain ⟨hI, er42⟩ := hp
          replace hI : md_I D cs H x g (upd i 0 1) f := hI
          refine lv_eqi (y := 0) er42 ?_
          refine lv_if_ne (x := 0) (tgt := 50) hx hb d_Md_decide_45 (by decide) (fun c45 => ?_) (fun c45 => ?_)
          · exact absurd c45 (by decide)
          · skip
            refine lv_iconst (v := 0) hx hb d_Md_decide_48 (by decide) ?_
            exact W.iret (v := 0) hx hb hr (fun t ht hW => ⟨⟨0, H, rfl, by dsimp only; have e0 : (isN n qa && isN n qb) = false := (by first | (simp [c6, c24, c28, c33]; done) | (simp [c6, c24, c28, c33]; omega) | omega | simp_all); have e1 : (!decide (qa = qb) && !decide (kd < 0) && !decide (2 < kd)) = true := (by first | (simp [c6, c24, c28, c33]; done) | (simp [c6, c24, c28, c33]; omega) | omega | simp_all); rw [e0, e1]; rw [if_neg (show ¬ goB false true true = true by simp [goB])]; exact ⟨hI, rfl⟩, ht⟩, hS.F ht⟩) hS.2.2 d_Md_decide_49
  · skip
    replace c6 : (isN n qa) = true := bI_1 c6
    refine lv_aload_n hx hb d_Md_decide_9 rfl (lv_at hl 0 rfl) ?_
    refine lv_iload_n hx hb d_Md_decide_10 rfl (lv_at hl 2 rfl) ?_
    refine h_calli (va_runV (As := [.int qb]) (rest := [.ref x]) ⟨hx, hb, hml, hown, htg⟩ (c_Md_isName l D cs N0 H x g i f qb hsep hI n hn) (cwV 1 htg (gw_V (gw_mem (i := 1108) (by decide +kernel) rfl) (gw_mem (i := 1110) (by decide +kernel) rfl) (gw_mem (i := 19) (by decide +kernel) rfl) (gw_mem (i := 38) (by decide +kernel) rfl) (gw_mem (i := 1111) (by decide +kernel) rfl)) rfl rfl rfl (by decide +kernel) ⟨Nat.le_of_ble_eq_true rfl, Nat.le_of_ble_eq_true rfl⟩) ⟨hPre.blind, hx_recv hK (ci := 0) rfl hI.1, hPre.at hB hS hsep.A⟩ rfl rfl hl.1 rfl (lv_room (Nat.le_of_ble_eq_true rfl)) d_Md_decide_11 ⟨Nat.zero_le _, Nat.zero_le _⟩) hS (fun _ h => h) (fun r11 H locs hp hz hk hS => ?_)
    obtain ⟨hI, er11⟩ := hp
    refine lv_eqi (y := (bI (isN n qb))) er11 ?_
    refine lv_if_eq (x := (bI (isN n qb))) (tgt := 21) hx hb d_Md_decide_14 (by decide) (fun c14 => ?_) (fun c14 => ?_)
    · skip
      replace c14 : (isN n qb) = false := bI_0 c14
      refine lv_iconst (v := 0) hx hb d_Md_decide_21 (by decide) ?_
      refine lv_iload_n hx hb d_Md_decide_22 rfl (lv_at hl 1 rfl) ?_
      refine lv_iload_n hx hb d_Md_decide_23 rfl (lv_at hl 2 rfl) ?_
      refine lv_icmp_eq (x := qa) (y := qb) (tgt := 40) hx hb d_Md_decide_24 (by decide) (fun c24 => ?_) (fun c24 => ?_)
      · skip
        refine lv_iconst (v := 0) hx hb d_Md_decide_40 (by decide) ?_
        refine lv_iconst (v := 1) hx hb d_Md_decide_41 (by decide) ?_
        refine h_calli (va_runV (As := [.int 0, .int 0, .int 1]) (rest := []) ⟨hx, hb, hml, hown, htg⟩ (c_Md_goes l D cs N0 H x g i f false false true hsep hI) (cwV 3 htg (gw_V (gw_mem (i := 1092) (by decide +kernel) rfl) (gw_mem (i := 1094) (by decide +kernel) rfl) (gw_mem (i := 18) (by decide +kernel) rfl) (gw_mem (i := 38) (by decide +kernel) rfl) (gw_mem (i := 1095) (by decide +kernel) rfl)) rfl rfl rfl (by decide +kernel) ⟨Nat.le_of_ble_eq_true rfl, Nat.le_of_ble_eq_true rfl⟩) ⟨hPre.blind, hx_recv hK (ci := 0) rfl hI.1, hPre.at hB hS hsep.A⟩ rfl rfl hl.1 rfl (lv_room (Nat.le_of_ble_eq_true rfl)) d_Md_decide_42 ⟨Nat.zero_le _, Nat.zero_le _⟩) hS (fun _ h => h) (fun r42 H locs hp hz hk hS => ?_)
        obtain ⟨hI, er42⟩ := hp
        replace hI : md_I D cs H x g (upd i 0 1) f := hI
        refine lv_eqi (y := 0) er42 ?_
        refine lv_if_ne (x := 0) (tgt := 50) hx hb d_Md_decide_45 (by decide) (fun c45 => ?_) (fun c45 => ?_)
        · exact absurd c45 (by decide)
        · skip
          refine lv_iconst (v := 0) hx hb d_Md_decide_48 (by decide) ?_
          exact W.iret (v := 0) hx hb hr (fun t ht hW => ⟨⟨0, H, rfl, by dsimp only; have e0 : (isN n qa && isN n qb) = false := (by first | (simp [c6, c14, c24]; done) | (simp [c6, c14, c24]; omega) | omega | simp_all); have e1 : (!decide (qa = qb) && !decide (kd < 0) && !decide (2 < kd)) = false := (by first | (simp [c6, c14, c24]; done) | (simp [c6, c14, c24]; omega) | omega | simp_all); rw [e0, e1]; rw [if_neg (show ¬ goB false false true = true by simp [goB])]; exact ⟨hI, rfl⟩, ht⟩, hS.F ht⟩) hS.2.2 d_Md_decide_49
      · skip
        refine lv_iload_n hx hb d_Md_decide_27 rfl (lv_at hl 3 rfl) ?_
        refine lv_if_lt (x := kd) (tgt := 40) hx hb d_Md_decide_28 (by decide) (fun c28 => ?_) (fun c28 => ?_)
        · skip
          refine lv_iconst (v := 0) hx hb d_Md_decide_40 (by decide) ?_
          refine lv_iconst (v := 1) hx hb d_Md_decide_41 (by decide) ?_
          refine h_calli (va_runV (As := [.int 0, .int 0, .int 1]) (rest := []) ⟨hx, hb, hml, hown, htg⟩ (c_Md_goes l D cs N0 H x g i f false false true hsep hI) (cwV 3 htg (gw_V (gw_mem (i := 1092) (by decide +kernel) rfl) (gw_mem (i := 1094) (by decide +kernel) rfl) (gw_mem (i := 18) (by decide +kernel) rfl) (gw_mem (i := 38) (by decide +kernel) rfl) (gw_mem (i := 1095) (by decide +kernel) rfl)) rfl rfl rfl (by decide +kernel) ⟨Nat.le_of_ble_eq_true rfl, Nat.le_of_ble_eq_true rfl⟩) ⟨hPre.blind, hx_recv hK (ci := 0) rfl hI.1, hPre.at hB hS hsep.A⟩ rfl rfl hl.1 rfl (lv_room (Nat.le_of_ble_eq_true rfl)) d_Md_decide_42 ⟨Nat.zero_le _, Nat.zero_le _⟩) hS (fun _ h => h) (fun r42 H locs hp hz hk hS => ?_)
          obtain ⟨hI, er42⟩ := hp
          replace hI : md_I D cs H x g (upd i 0 1) f := hI
          refine lv_eqi (y := 0) er42 ?_
          refine lv_if_ne (x := 0) (tgt := 50) hx hb d_Md_decide_45 (by decide) (fun c45 => ?_) (fun c45 => ?_)
          · exact absurd c45 (by decide)
          · skip
            refine lv_iconst (v := 0) hx hb d_Md_decide_48 (by decide) ?_
            exact W.iret (v := 0) hx hb hr (fun t ht hW => ⟨⟨0, H, rfl, by dsimp only; have e0 : (isN n qa && isN n qb) = false := (by first | (simp [c6, c14, c24, c28]; done) | (simp [c6, c14, c24, c28]; omega) | omega | simp_all); have e1 : (!decide (qa = qb) && !decide (kd < 0) && !decide (2 < kd)) = false := (by first | (simp [c6, c14, c24, c28]; done) | (simp [c6, c14, c24, c28]; omega) | omega | simp_all); rw [e0, e1]; rw [if_neg (show ¬ goB false false true = true by simp [goB])]; exact ⟨hI, rfl⟩, ht⟩, hS.F ht⟩) hS.2.2 d_Md_decide_49
        · skip
          refine lv_iload_n hx hb d_Md_decide_31 rfl (lv_at hl 3 rfl) ?_
          refine lv_iconst (v := 2) hx hb d_Md_decide_32 (by decide) ?_
          refine lv_icmp_gt (x := kd) (y := 2) (tgt := 40) hx hb d_Md_decide_33 (by decide) (fun c33 => ?_) (fun c33 => ?_)
          · skip
            refine lv_iconst (v := 0) hx hb d_Md_decide_40 (by decide) ?_
            refine lv_iconst (v := 1) hx hb d_Md_decide_41 (by decide) ?_
            refine h_calli (va_runV (As := [.int 0, .int 0, .int 1]) (rest := []) ⟨hx, hb, hml, hown, htg⟩ (c_Md_goes l D cs N0 H x g i f false false true hsep hI) (cwV 3 htg (gw_V (gw_mem (i := 1092) (by decide +kernel) rfl) (gw_mem (i := 1094) (by decide +kernel) rfl) (gw_mem (i := 18) (by decide +kernel) rfl) (gw_mem (i := 38) (by decide +kernel) rfl) (gw_mem (i := 1095) (by decide +kernel) rfl)) rfl rfl rfl (by decide +kernel) ⟨Nat.le_of_ble_eq_true rfl, Nat.le_of_ble_eq_true rfl⟩) ⟨hPre.blind, hx_recv hK (ci := 0) rfl hI.1, hPre.at hB hS hsep.A⟩ rfl rfl hl.1 rfl (lv_room (Nat.le_of_ble_eq_true rfl)) d_Md_decide_42 ⟨Nat.zero_le _, Nat.zero_le _⟩) hS (fun _ h => h) (fun r42 H locs hp hz hk hS => ?_)
            obtain ⟨hI, er42⟩ := hp
            replace hI : md_I D cs H x g (upd i 0 1) f := hI
            refine lv_eqi (y := 0) er42 ?_
            refine lv_if_ne (x := 0) (tgt := 50) hx hb d_Md_decide_45 (by decide) (fun c45 => ?_) (fun c45 => ?_)
            · exact absurd c45 (by decide)
            · skip
              refine lv_iconst (v := 0) hx hb d_Md_decide_48 (by decide) ?_
              exact W.iret (v := 0) hx hb hr (fun t ht hW => ⟨⟨0, H, rfl, by dsimp only; have e0 : (isN n qa && isN n qb) = false := (by first | (simp [c6, c14, c24, c28, c33]; done) | (simp [c6, c14, c24, c28, c33]; omega) | omega | simp_all); have e1 : (!decide (qa = qb) && !decide (kd < 0) && !decide (2 < kd)) = false := (by first | (simp [c6, c14, c24, c28, c33]; done) | (simp [c6, c14, c24, c28, c33]; omega) | omega | simp_all); rw [e0, e1]; rw [if_neg (show ¬ goB false false true = true by simp [goB])]; exact ⟨hI, rfl⟩, ht⟩, hS.F ht⟩) hS.2.2 d_Md_decide_49
          · skip
            refine lv_iconst (v := 1) hx hb d_Md_decide_36 (by decide) ?_
            refine lv_goto (tgt := 41) hx hb d_Md_decide_37 (by decide) ?_
            refine lv_iconst (v := 1) hx hb d_Md_decide_41 (by decide) ?_
            refine h_calli (va_runV (As := [.int 0, .int 1, .int 1]) (rest := []) ⟨hx, hb, hml, hown, htg⟩ (c_Md_goes l D cs N0 H x g i f false true true hsep hI) (cwV 3 htg (gw_V (gw_mem (i := 1092) (by decide +kernel) rfl) (gw_mem (i := 1094) (by decide +kernel) rfl) (gw_mem (i := 18) (by decide +kernel) rfl) (gw_mem (i := 38) (by decide +kernel) rfl) (gw_mem (i := 1095) (by decide +kernel) rfl)) rfl rfl rfl (by decide +kernel) ⟨Nat.le_of_ble_eq_true rfl, Nat.le_of_ble_eq_true rfl⟩) ⟨hPre.blind, hx_recv hK (ci := 0) rfl hI.1, hPre.at hB hS hsep.A⟩ rfl rfl hl.1 rfl (lv_room (Nat.le_of_ble_eq_true rfl)) d_Md_decide_42 ⟨Nat.zero_le _, Nat.zero_le _⟩) hS (fun _ h => h) (fun r42 H locs hp hz hk hS => ?_)
            obtain ⟨hI, er42⟩ := hp
            replace hI : md_I D cs H x g (upd i 0 1) f := hI
            refine lv_eqi (y := 0) er42 ?_
            refine lv_if_ne (x := 0) (tgt := 50) hx hb d_Md_decide_45 (by decide) (fun c45 => ?_) (fun c45 => ?_)
            · exact absurd c45 (by decide)
            · skip
              refine lv_iconst (v := 0) hx hb d_Md_decide_48 (by decide) ?_
              exact W.iret (v := 0) hx hb hr (fun t ht hW => ⟨⟨0, H, rfl, by dsimp only; have e0 : (isN n qa && isN n qb) = false := (by first | (simp [c6, c14, c24, c28, c33]; done) | (simp [c6, c14, c24, c28, c33]; omega) | omega | simp_all); have e1 : (!decide (qa = qb) && !decide (kd < 0) && !decide (2 < kd)) = true := (by first | (simp [c6, c14, c24, c28, c33]; done) | (simp [c6, c14, c24, c28, c33]; omega) | omega | simp_all); rw [e0, e1]; rw [if_neg (show ¬ goB false true true = true by simp [goB])]; exact ⟨hI, rfl⟩, ht⟩, hS.F ht⟩) hS.2.2 d_Md_decide_49
    · skip
      replace c14 : (isN n qb) = true := bI_1 c14
      refine lv_iconst (v := 1) hx hb d_Md_decide_17 (by decide) ?_
      refine lv_goto (tgt := 22) hx hb d_Md_decide_18 (by decide) ?_
      refine lv_iload_n hx hb d_Md_decide_22 rfl (lv_at hl 1 rfl) ?_
      refine lv_iload_n hx hb d_Md_decide_23 rfl (lv_at hl 2 rfl) ?_
      refine lv_icmp_eq (x := qa) (y := qb) (tgt := 40) hx hb d_Md_decide_24 (by decide) (fun c24 => ?_) (fun c24 => ?_)
      · skip
        refine lv_iconst (v := 0) hx hb d_Md_decide_40 (by decide) ?_
        refine lv_iconst (v := 1) hx hb d_Md_decide_41 (by decide) ?_
        refine h_calli (va_runV (As := [.int 1, .int 0, .int 1]) (rest := []) ⟨hx, hb, hml, hown, htg⟩ (c_Md_goes l D cs N0 H x g i f true false true hsep hI) (cwV 3 htg (gw_V (gw_mem (i := 1092) (by decide +kernel) rfl) (gw_mem (i := 1094) (by decide +kernel) rfl) (gw_mem (i := 18) (by decide +kernel) rfl) (gw_mem (i := 38) (by decide +kernel) rfl) (gw_mem (i := 1095) (by decide +kernel) rfl)) rfl rfl rfl (by decide +kernel) ⟨Nat.le_of_ble_eq_true rfl, Nat.le_of_ble_eq_true rfl⟩) ⟨hPre.blind, hx_recv hK (ci := 0) rfl hI.1, hPre.at hB hS hsep.A⟩ rfl rfl hl.1 rfl (lv_room (Nat.le_of_ble_eq_true rfl)) d_Md_decide_42 ⟨Nat.zero_le _, Nat.zero_le _⟩) hS (fun _ h => h) (fun r42 H locs hp hz hk hS => ?_)
        obtain ⟨hI, er42⟩ := hp
        replace hI : md_I D cs H x g (upd i 0 2) f := hI
        refine lv_eqi (y := 0) er42 ?_
        refine lv_if_ne (x := 0) (tgt := 50) hx hb d_Md_decide_45 (by decide) (fun c45 => ?_) (fun c45 => ?_)
        · exact absurd c45 (by decide)
        · skip
          refine lv_iconst (v := 0) hx hb d_Md_decide_48 (by decide) ?_
          exact W.iret (v := 0) hx hb hr (fun t ht hW => ⟨⟨0, H, rfl, by dsimp only; have e0 : (isN n qa && isN n qb) = true := (by first | (simp [c6, c14, c24]; done) | (simp [c6, c14, c24]; omega) | omega | simp_all); have e1 : (!decide (qa = qb) && !decide (kd < 0) && !decide (2 < kd)) = false := (by first | (simp [c6, c14, c24]; done) | (simp [c6, c14, c24]; omega) | omega | simp_all); rw [e0, e1]; rw [if_neg (show ¬ goB true false true = true by simp [goB])]; exact ⟨hI, rfl⟩, ht⟩, hS.F ht⟩) hS.2.2 d_Md_decide_49
      · skip
        refine lv_iload_n hx hb d_Md_decide_27 rfl (lv_at hl 3 rfl) ?_
        refine lv_if_lt (x := kd) (tgt := 40) hx hb d_Md_decide_28 (by decide) (fun c28 => ?_) (fun c28 => ?_)
        · skip
          refine lv_iconst (v := 0) hx hb d_Md_decide_40 (by decide) ?_
          refine lv_iconst (v := 1) hx hb d_Md_decide_41 (by decide) ?_
          refine h_calli (va_runV (As := [.int 1, .int 0, .int 1]) (rest := []) ⟨hx, hb, hml, hown, htg⟩ (c_Md_goes l D cs N0 H x g i f true false true hsep hI) (cwV 3 htg (gw_V (gw_mem (i := 1092) (by decide +kernel) rfl) (gw_mem (i := 1094) (by decide +kernel) rfl) (gw_mem (i := 18) (by decide +kernel) rfl) (gw_mem (i := 38) (by decide +kernel) rfl) (gw_mem (i := 1095) (by decide +kernel) rfl)) rfl rfl rfl (by decide +kernel) ⟨Nat.le_of_ble_eq_true rfl, Nat.le_of_ble_eq_true rfl⟩) ⟨hPre.blind, hx_recv hK (ci := 0) rfl hI.1, hPre.at hB hS hsep.A⟩ rfl rfl hl.1 rfl (lv_room (Nat.le_of_ble_eq_true rfl)) d_Md_decide_42 ⟨Nat.zero_le _, Nat.zero_le _⟩) hS (fun _ h => h) (fun r42 H locs hp hz hk hS => ?_)
          obtain ⟨hI, er42⟩ := hp
          replace hI : md_I D cs H x g (upd i 0 2) f := hI
          refine lv_eqi (y := 0) er42 ?_
          refine lv_if_ne (x := 0) (tgt := 50) hx hb d_Md_decide_45 (by decide) (fun c45 => ?_) (fun c45 => ?_)
          · exact absurd c45 (by decide)
          · skip
            refine lv_iconst (v := 0) hx hb d_Md_decide_48 (by decide) ?_
            exact W.iret (v := 0) hx hb hr (fun t ht hW => ⟨⟨0, H, rfl, by dsimp only; have e0 : (isN n qa && isN n qb) = true := (by first | (simp [c6, c14, c24, c28]; done) | (simp [c6, c14, c24, c28]; omega) | omega | simp_all); have e1 : (!decide (qa = qb) && !decide (kd < 0) && !decide (2 < kd)) = false := (by first | (simp [c6, c14, c24, c28]; done) | (simp [c6, c14, c24, c28]; omega) | omega | simp_all); rw [e0, e1]; rw [if_neg (show ¬ goB true false true = true by simp [goB])]; exact ⟨hI, rfl⟩, ht⟩, hS.F ht⟩) hS.2.2 d_Md_decide_49
        · skip
          refine lv_iload_n hx hb d_Md_decide_31 rfl (lv_at hl 3 rfl) ?_
          refine lv_iconst (v := 2) hx hb d_Md_decide_32 (by decide) ?_
          refine lv_icmp_gt (x := kd) (y := 2) (tgt := 40) hx hb d_Md_decide_33 (by decide) (fun c33 => ?_) (fun c33 => ?_)
          · skip
            refine lv_iconst (v := 0) hx hb d_Md_decide_40 (by decide) ?_
            refine lv_iconst (v := 1) hx hb d_Md_decide_41 (by decide) ?_
            refine h_calli (va_runV (As := [.int 1, .int 0, .int 1]) (rest := []) ⟨hx, hb, hml, hown, htg⟩ (c_Md_goes l D cs N0 H x g i f true false true hsep hI) (cwV 3 htg (gw_V (gw_mem (i := 1092) (by decide +kernel) rfl) (gw_mem (i := 1094) (by decide +kernel) rfl) (gw_mem (i := 18) (by decide +kernel) rfl) (gw_mem (i := 38) (by decide +kernel) rfl) (gw_mem (i := 1095) (by decide +kernel) rfl)) rfl rfl rfl (by decide +kernel) ⟨Nat.le_of_ble_eq_true rfl, Nat.le_of_ble_eq_true rfl⟩) ⟨hPre.blind, hx_recv hK (ci := 0) rfl hI.1, hPre.at hB hS hsep.A⟩ rfl rfl hl.1 rfl (lv_room (Nat.le_of_ble_eq_true rfl)) d_Md_decide_42 ⟨Nat.zero_le _, Nat.zero_le _⟩) hS (fun _ h => h) (fun r42 H locs hp hz hk hS => ?_)
            obtain ⟨hI, er42⟩ := hp
            replace hI : md_I D cs H x g (upd i 0 2) f := hI
            refine lv_eqi (y := 0) er42 ?_
            refine lv_if_ne (x := 0) (tgt := 50) hx hb d_Md_decide_45 (by decide) (fun c45 => ?_) (fun c45 => ?_)
            · exact absurd c45 (by decide)
            · skip
              refine lv_iconst (v := 0) hx hb d_Md_decide_48 (by decide) ?_
              exact W.iret (v := 0) hx hb hr (fun t ht hW => ⟨⟨0, H, rfl, by dsimp only; have e0 : (isN n qa && isN n qb) = true := (by first | (simp [c6, c14, c24, c28, c33]; done) | (simp [c6, c14, c24, c28, c33]; omega) | omega | simp_all); have e1 : (!decide (qa = qb) && !decide (kd < 0) && !decide (2 < kd)) = false := (by first | (simp [c6, c14, c24, c28, c33]; done) | (simp [c6, c14, c24, c28, c33]; omega) | omega | simp_all); rw [e0, e1]; rw [if_neg (show ¬ goB true false true = true by simp [goB])]; exact ⟨hI, rfl⟩, ht⟩, hS.F ht⟩) hS.2.2 d_Md_decide_49
          · skip
            refine lv_iconst (v := 1) hx hb d_Md_decide_36 (by decide) ?_
            refine lv_goto (tgt := 41) hx hb d_Md_decide_37 (by decide) ?_
            refine lv_iconst (v := 1) hx hb d_Md_decide_41 (by decide) ?_
            refine h_calli (va_runV (As := [.int 1, .int 1, .int 1]) (rest := []) ⟨hx, hb, hml, hown, htg⟩ (c_Md_goes l D cs N0 H x g i f true true true hsep hI) (cwV 3 htg (gw_V (gw_mem (i := 1092) (by decide +kernel) rfl) (gw_mem (i := 1094) (by decide +kernel) rfl) (gw_mem (i := 18) (by decide +kernel) rfl) (gw_mem (i := 38) (by decide +kernel) rfl) (gw_mem (i := 1095) (by decide +kernel) rfl)) rfl rfl rfl (by decide +kernel) ⟨Nat.le_of_ble_eq_true rfl, Nat.le_of_ble_eq_true rfl⟩) ⟨hPre.blind, hx_recv hK (ci := 0) rfl hI.1, hPre.at hB hS hsep.A⟩ rfl rfl hl.1 rfl (lv_room (Nat.le_of_ble_eq_true rfl)) d_Md_decide_42 ⟨Nat.zero_le _, Nat.zero_le _⟩) hS (fun _ h => h) (fun r42 H locs hp hz hk hS => ?_)
            obtain ⟨hI, er42⟩ := hp
            replace hI : md_I D cs H x g (upd i 0 0) f := hI
            refine lv_eqi (y := 1) er42 ?_
            refine lv_if_ne (x := 1) (tgt := 50) hx hb d_Md_decide_45 (by decide) (fun c45 => ?_) (fun c45 => ?_)
            · skip
              obtain ⟨ha, ea⟩ := isN_n c6 (by omega)
              obtain ⟨hb1, eb⟩ := isN_n c14 (by omega)
              refine lv_aload_n hx hb d_Md_decide_50 rfl (lv_at hl 0 rfl) ?_
              refine hx_get (v := .ref (g 9)) hx hb htg iMd hown hK hI.1 rfl 12 (by decide) (htg _ (gw_mem (i := 1010) (by decide +kernel) rfl)) (fun _ h9 => h9) rfl d_Md_decide_51 ?_
              refine lv_bipush (v := 24) hx hb d_Md_decide_54 (by decide) ?_
              refine lv_iload_n hx hb d_Md_decide_56 rfl (lv_at hl 1 rfl) ?_
              refine lv_eqi (y := (nI (tn qa))) ea ?_
              refine lv_imul (x := 24) (y := (nI (tn qa))) hx hb d_Md_decide_57 ?_
              refine lv_eqi (y := (nI (24 * (tn qa)))) (pk_mul 24 (tn qa)) ?_
              refine lv_iload_n hx hb d_Md_decide_58 rfl (lv_at hl 2 rfl) ?_
              refine lv_eqi (y := (nI (tn qb))) eb ?_
              refine lv_iadd (x := (nI (24 * (tn qa)))) (y := (nI (tn qb))) hx hb d_Md_decide_59 ?_
              refine lv_eqi (y := (nI (24 * (tn qa) + tn qb))) (nI_add (24 * (tn qa)) (tn qb)) ?_
              refine hx_iald hx hb hK 0 (hI.2 9 (by decide)) rfl (show vp_in (nI (24 * (tn qa) + tn qb)) 576 from vp_in_nI (n := 24 * (tn qa) + tn qb) (by omega) (by decide)) d_Md_decide_60 ?_
              refine lv_eqi (y := (f 9 (24 * (tn qa) + tn qb))) (show f 9 (nI (24 * (tn qa) + tn qb)).toNatClampNeg = _ by rw [nI_clamp (by omega)]) ?_
              refine lv_istore (lv' := [(4, .int (f 9 (24 * (tn qa) + tn qb))), (0, .ref x), (1, .int qa), (2, .int qb), (3, .int kd)]) hx hb d_Md_decide_61 hl (by decide) rfl (fun ls hl => ?_)
              refine lv_aload_n hx hb d_Md_decide_63 rfl (lv_at hl 1 rfl) ?_
              refine hx_get (v := .ref (g 9)) hx hb htg iMd hown hK hI.1 rfl 12 (by decide) (htg _ (gw_mem (i := 1010) (by decide +kernel) rfl)) (fun _ h9 => h9) rfl d_Md_decide_64 ?_
              refine lv_bipush (v := 24) hx hb d_Md_decide_67 (by decide) ?_
              refine lv_iload_n hx hb d_Md_decide_69 rfl (lv_at hl 2 rfl) ?_
              refine lv_eqi (y := (nI (tn qa))) ea ?_
              refine lv_imul (x := 24) (y := (nI (tn qa))) hx hb d_Md_decide_70 ?_
              refine lv_eqi (y := (nI (24 * (tn qa)))) (pk_mul 24 (tn qa)) ?_
              refine lv_iload_n hx hb d_Md_decide_71 rfl (lv_at hl 3 rfl) ?_
              refine lv_eqi (y := (nI (tn qb))) eb ?_
              refine lv_iadd (x := (nI (24 * (tn qa)))) (y := (nI (tn qb))) hx hb d_Md_decide_72 ?_
              refine lv_eqi (y := (nI (24 * (tn qa) + tn qb))) (nI_add (24 * (tn qa)) (tn qb)) ?_
              refine lv_iload_n hx hb d_Md_decide_73 rfl (lv_at hl 4 rfl) ?_
              refine hx_iast hx hb hK hS (Or.inr ⟨9, by decide, rfl⟩) 0 (hI.2 9 (by decide)) rfl (show vp_in (nI (24 * (tn qa) + tn qb)) 576 from vp_in_nI (n := 24 * (tn qa) + tn qb) (by omega) (by decide)) d_Md_decide_74 (fun H locs hat hz ho hS => ?_)
              replace hI : md_I D cs H x g (upd i 0 0) (updA f 9 (24 * (tn qa) + tn qb) (kd)) := md_I.puta hI hsep (by decide) (by rw [show ((nI (24 * (tn qa) + tn qb)) : Int32).toNatClampNeg = 24 * (tn qa) + tn qb from nI_clamp (n := 24 * (tn qa) + tn qb) (by omega)] at hat; exact hat) ho
              refine lv_aload_n hx hb d_Md_decide_75 rfl (lv_at hl 1 rfl) ?_
              refine hx_get (v := .ref (g 9)) hx hb htg iMd hown hK hI.1 rfl 12 (by decide) (htg _ (gw_mem (i := 1010) (by decide +kernel) rfl)) (fun _ h9 => h9) rfl d_Md_decide_76 ?_
              refine lv_bipush (v := 24) hx hb d_Md_decide_79 (by decide) ?_
              refine lv_iload_n hx hb d_Md_decide_81 rfl (lv_at hl 3 rfl) ?_
              refine lv_eqi (y := (nI (tn qb))) eb ?_
              refine lv_imul (x := 24) (y := (nI (tn qb))) hx hb d_Md_decide_82 ?_
              refine lv_eqi (y := (nI (24 * (tn qb)))) (pk_mul 24 (tn qb)) ?_
              refine lv_iload_n hx hb d_Md_decide_83 rfl (lv_at hl 2 rfl) ?_
              refine lv_eqi (y := (nI (tn qa))) ea ?_
              refine lv_iadd (x := (nI (24 * (tn qb)))) (y := (nI (tn qa))) hx hb d_Md_decide_84 ?_
              refine lv_eqi (y := (nI (24 * (tn qb) + tn qa))) (nI_add (24 * (tn qb)) (tn qa)) ?_
              refine lv_iload_n hx hb d_Md_decide_85 rfl (lv_at hl 4 rfl) ?_
              refine hx_iast hx hb hK hS (Or.inr ⟨9, by decide, rfl⟩) 0 (hI.2 9 (by decide)) rfl (show vp_in (nI (24 * (tn qb) + tn qa)) 576 from vp_in_nI (n := 24 * (tn qb) + tn qa) (by omega) (by decide)) d_Md_decide_86 (fun H locs hat hz ho hS => ?_)
              replace hI : md_I D cs H x g (upd i 0 0) (updA (updA f 9 (24 * (tn qa) + tn qb) (kd)) 9 (24 * (tn qb) + tn qa) (kd)) := md_I.puta hI hsep (by decide) (by rw [show ((nI (24 * (tn qb) + tn qa)) : Int32).toNatClampNeg = 24 * (tn qb) + tn qa from nI_clamp (n := 24 * (tn qb) + tn qa) (by omega)] at hat; exact hat) ho
              refine lv_iload hx hb d_Md_decide_87 (lv_at hl 0 rfl) ?_
              exact W.iret (v := (f 9 (24 * (tn qa) + tn qb))) hx hb hr (fun t ht hW => ⟨⟨(f 9 (24 * (tn qa) + tn qb)), H, rfl, by dsimp only; have e0 : (isN n qa && isN n qb) = true := (by first | (simp [c6, c14, c24, c28, c33]; done) | (simp [c6, c14, c24, c28, c33]; omega) | omega | simp_all); have e1 : (!decide (qa = qb) && !decide (kd < 0) && !decide (2 < kd)) = true := (by first | (simp [c6, c14, c24, c28, c33]; done) | (simp [c6, c14, c24, c28, c33]; omega) | omega | simp_all); rw [e0, e1]; rw [if_pos (show goB true true true = true from rfl)]; exact ⟨hI, rfl⟩, ht⟩, hS.F ht⟩) hS.2.2 d_Md_decide_89
            · exact absurd c45 (by decide)
def y_Md_found : MethodName := ⟨"NameMergesModel", "found", "(I)I"⟩
abbrev w_Md_found : List Cond := Cond.code y_Md_found prog_7_method_30_code 2 (Option.some Jvm.ClassFile.FieldType.int) :: gw
theorem d_Md_found_0 : decode prog_7_method_30_code 0 = .ok (.aload_n 0, 1) := by decide +kernel
theorem d_Md_found_1 : decode prog_7_method_30_code 1 = .ok (.iload_n 1, 1) := by decide +kernel
theorem d_Md_found_2 : decode prog_7_method_30_code 2 = .ok (.ifCond .lt 15, 3) := by decide +kernel
theorem d_Md_found_5 : decode prog_7_method_30_code 5 = .ok (.iload_n 1, 1) := by decide +kernel
theorem d_Md_found_6 : decode prog_7_method_30_code 6 = .ok (.aload_n 0, 1) := by decide +kernel
theorem d_Md_found_7 : decode prog_7_method_30_code 7 = .ok (.getfield 130, 3) := by decide +kernel
theorem d_Md_found_10 : decode prog_7_method_30_code 10 = .ok (.if_icmp .ge 7, 3) := by decide +kernel
theorem d_Md_found_13 : decode prog_7_method_30_code 13 = .ok (.iconst 1, 1) := by decide +kernel
theorem d_Md_found_14 : decode prog_7_method_30_code 14 = .ok (.goto 4, 3) := by decide +kernel
theorem d_Md_found_17 : decode prog_7_method_30_code 17 = .ok (.iconst 0, 1) := by decide +kernel
theorem d_Md_found_18 : decode prog_7_method_30_code 18 = .ok (.iconst 1, 1) := by decide +kernel
theorem d_Md_found_19 : decode prog_7_method_30_code 19 = .ok (.iconst 1, 1) := by decide +kernel
theorem d_Md_found_20 : decode prog_7_method_30_code 20 = .ok (.invokevirtual 88, 3) := by decide +kernel
theorem d_Md_found_23 : decode prog_7_method_30_code 23 = .ok (.ifCond .eq 12, 3) := by decide +kernel
theorem d_Md_found_26 : decode prog_7_method_30_code 26 = .ok (.aload_n 0, 1) := by decide +kernel
theorem d_Md_found_27 : decode prog_7_method_30_code 27 = .ok (.getfield 71, 3) := by decide +kernel
theorem d_Md_found_30 : decode prog_7_method_30_code 30 = .ok (.iload_n 1, 1) := by decide +kernel
theorem d_Md_found_31 : decode prog_7_method_30_code 31 = .ok (.iaload, 1) := by decide +kernel
theorem d_Md_found_32 : decode prog_7_method_30_code 32 = .ok (.goto 4, 3) := by decide +kernel
theorem d_Md_found_35 : decode prog_7_method_30_code 35 = .ok (.iconst 0, 1) := by decide +kernel
theorem d_Md_found_36 : decode prog_7_method_30_code 36 = .ok (.ireturn, 1) := by decide +kernel
set_option maxHeartbeats 4000000 in
set_option maxRecDepth 100000 in
theorem c_Md_found (l : Launch) (D : va_G) (cs : Nat → ClassId) (N0 : Nat) (H : Heap) (x : Nat) (g : Nat → Nat) (i : Nat → Int32) (f : Nat → Nat → Int32) (q : Int32) (hsep : md_sep N0 x g) (hI : md_I D cs H x g i f) (fc : Nat) (hfc : i 5 = nI fc) (hf24 : fc ≤ 24) : Met l y_Md_found w_Md_found ({ frames := 1, cells := 0, slots := 0, locals := 23 }) (hPre D cs N0 [.ref x, .int q] H) (hQi (fun r H' => if goB (isN fc q) true true = true then (md_I D cs H' x g (upd i 0 (goV (isN fc q) true true)) f ∧ r = f 20 (tn q)) else (md_I D cs H' x g (upd i 0 (goV (isN fc q) true true)) f ∧ r = 0)) (md_A x g)) 0 0 (md_A x g) := by
  refine Met.ofW (cc := prog_7_method_30_code) (maxL := 2) (ret := (Option.some Jvm.ClassFile.FieldType.int)) (by decide) rfl ?_
  intro p e s m args below meth c s₁ B hml hv
  obtain ⟨rfl, rfl, hB⟩ := hv
  have hx := B.exec
  have hb := B.bytes
  have hr := B.returns
  have hts := atoms_spec (ws := w_Md_found) B.pre
  have htg : ∀ w ∈ gw, w.before _ s = true := fun w h => hts w (List.mem_cons_of_mem _ h)
  have hown : s.vm.findClass "NameMergesModel" = some m.cls := findClass_of_methodNamed B.named
  have hlocks := B.notSynchronized
  have hK := hB.1
  have hS : va_S (md_A x g) s.heap s.heap [] := va_S.rf
  obtain ⟨H, hH⟩ : ∃ z : Heap, z = s.heap := ⟨_, rfl⟩
  rw [← hH] at hI
  have hS : va_S (md_A x g) s.heap H [] := by rw [hH]; exact va_S.rf
  have hl := lv_entry ([.ref x, .int q]) (n := 2) (Nat.le_of_ble_eq_true rfl)
  rw [lg_entry_eq, ← hH]
  generalize (lg_sl ([.ref x, .int q]) ++ List.replicate (2 - (lg_sl ([.ref x, .int q])).length) Slot.unset).toArray = ls at hl ⊢
  have hl : lv_has ls 2 [(0, .ref x), (1, .int q)] := hl
  refine lv_aload_n hx hb d_Md_found_0 rfl (lv_at hl 0 rfl) ?_
  refine lv_iload_n hx hb d_Md_found_1 rfl (lv_at hl 1 rfl) ?_
  refine lv_if_lt (x := q) (tgt := 17) hx hb d_Md_found_2 (by decide) (fun c2 => ?_) (fun c2 => ?_)
  · skip
    refine lv_iconst (v := 0) hx hb d_Md_found_17 (by decide) ?_
    refine lv_iconst (v := 1) hx hb d_Md_found_18 (by decide) ?_
    refine lv_iconst (v := 1) hx hb d_Md_found_19 (by decide) ?_
    refine h_calli (va_runV (As := [.int 0, .int 1, .int 1]) (rest := []) ⟨hx, hb, hml, hown, htg⟩ (c_Md_goes l D cs N0 H x g i f false true true hsep hI) (cwV 3 htg (gw_V (gw_mem (i := 1092) (by decide +kernel) rfl) (gw_mem (i := 1094) (by decide +kernel) rfl) (gw_mem (i := 18) (by decide +kernel) rfl) (gw_mem (i := 38) (by decide +kernel) rfl) (gw_mem (i := 1095) (by decide +kernel) rfl)) rfl rfl rfl (by decide +kernel) ⟨Nat.le_of_ble_eq_true rfl, Nat.le_of_ble_eq_true rfl⟩) ⟨hPre.blind, hx_recv hK (ci := 0) rfl hI.1, hPre.at hB hS hsep.A⟩ rfl rfl hl.1 rfl (lv_room (Nat.le_of_ble_eq_true rfl)) d_Md_found_20 ⟨Nat.zero_le _, Nat.zero_le _⟩) hS (fun _ h => h) (fun r20 H locs hp hz hk hS => ?_)
    obtain ⟨hI, er20⟩ := hp
    replace hI : md_I D cs H x g (upd i 0 1) f := hI
    refine lv_eqi (y := 0) er20 ?_
    refine lv_if_eq (x := 0) (tgt := 35) hx hb d_Md_found_23 (by decide) (fun c23 => ?_) (fun c23 => ?_)
    · skip
      refine lv_iconst (v := 0) hx hb d_Md_found_35 (by decide) ?_
      exact W.iret (v := 0) hx hb hr (fun t ht hW => ⟨⟨0, H, rfl, by dsimp only; have e0 : (isN fc q) = false := (by first | (simp [isN, c2]; done) | (simp [isN, c2]; omega) | omega | simp_all [isN]); rw [e0]; rw [if_neg (show ¬ goB false true true = true by simp [goB])]; exact ⟨hI, rfl⟩, ht⟩, hS.F ht⟩) hS.2.2 d_Md_found_36
    · exact absurd c23 (by decide)
  · skip
    refine lv_iload_n hx hb d_Md_found_5 rfl (lv_at hl 1 rfl) ?_
    refine lv_aload_n hx hb d_Md_found_6 rfl (lv_at hl 0 rfl) ?_
    refine hx_get (v := .int (i 5)) hx hb htg iMd hown hK hI.1 rfl 25 (by decide) (htg _ (gw_mem (i := 1023) (by decide +kernel) rfl)) (fun _ h9 => h9) rfl d_Md_found_7 ?_
    refine lv_eqi (y := (nI fc)) hfc ?_
    refine lv_icmp_ge (x := q) (y := (nI fc)) (tgt := 17) hx hb d_Md_found_10 (by decide) (fun c10 => ?_) (fun c10 => ?_)
    · skip
      refine lv_iconst (v := 0) hx hb d_Md_found_17 (by decide) ?_
      refine lv_iconst (v := 1) hx hb d_Md_found_18 (by decide) ?_
      refine lv_iconst (v := 1) hx hb d_Md_found_19 (by decide) ?_
      refine h_calli (va_runV (As := [.int 0, .int 1, .int 1]) (rest := []) ⟨hx, hb, hml, hown, htg⟩ (c_Md_goes l D cs N0 H x g i f false true true hsep hI) (cwV 3 htg (gw_V (gw_mem (i := 1092) (by decide +kernel) rfl) (gw_mem (i := 1094) (by decide +kernel) rfl) (gw_mem (i := 18) (by decide +kernel) rfl) (gw_mem (i := 38) (by decide +kernel) rfl) (gw_mem (i := 1095) (by decide +kernel) rfl)) rfl rfl rfl (by decide +kernel) ⟨Nat.le_of_ble_eq_true rfl, Nat.le_of_ble_eq_true rfl⟩) ⟨hPre.blind, hx_recv hK (ci := 0) rfl hI.1, hPre.at hB hS hsep.A⟩ rfl rfl hl.1 rfl (lv_room (Nat.le_of_ble_eq_true rfl)) d_Md_found_20 ⟨Nat.zero_le _, Nat.zero_le _⟩) hS (fun _ h => h) (fun r20 H locs hp hz hk hS => ?_)
      obtain ⟨hI, er20⟩ := hp
      replace hI : md_I D cs H x g (upd i 0 1) f := hI
      refine lv_eqi (y := 0) er20 ?_
      refine lv_if_eq (x := 0) (tgt := 35) hx hb d_Md_found_23 (by decide) (fun c23 => ?_) (fun c23 => ?_)
      · skip
        refine lv_iconst (v := 0) hx hb d_Md_found_35 (by decide) ?_
        exact W.iret (v := 0) hx hb hr (fun t ht hW => ⟨⟨0, H, rfl, by dsimp only; have e0 : (isN fc q) = false := (by first | (simp [isN, c2, c10]; done) | (simp [isN, c2, c10]; omega) | omega | simp_all [isN]); rw [e0]; rw [if_neg (show ¬ goB false true true = true by simp [goB])]; exact ⟨hI, rfl⟩, ht⟩, hS.F ht⟩) hS.2.2 d_Md_found_36
      · exact absurd c23 (by decide)
    · skip
      refine lv_iconst (v := 1) hx hb d_Md_found_13 (by decide) ?_
      refine lv_goto (tgt := 18) hx hb d_Md_found_14 (by decide) ?_
      refine lv_iconst (v := 1) hx hb d_Md_found_18 (by decide) ?_
      refine lv_iconst (v := 1) hx hb d_Md_found_19 (by decide) ?_
      refine h_calli (va_runV (As := [.int 1, .int 1, .int 1]) (rest := []) ⟨hx, hb, hml, hown, htg⟩ (c_Md_goes l D cs N0 H x g i f true true true hsep hI) (cwV 3 htg (gw_V (gw_mem (i := 1092) (by decide +kernel) rfl) (gw_mem (i := 1094) (by decide +kernel) rfl) (gw_mem (i := 18) (by decide +kernel) rfl) (gw_mem (i := 38) (by decide +kernel) rfl) (gw_mem (i := 1095) (by decide +kernel) rfl)) rfl rfl rfl (by decide +kernel) ⟨Nat.le_of_ble_eq_true rfl, Nat.le_of_ble_eq_true rfl⟩) ⟨hPre.blind, hx_recv hK (ci := 0) rfl hI.1, hPre.at hB hS hsep.A⟩ rfl rfl hl.1 rfl (lv_room (Nat.le_of_ble_eq_true rfl)) d_Md_found_20 ⟨Nat.zero_le _, Nat.zero_le _⟩) hS (fun _ h => h) (fun r20 H locs hp hz hk hS => ?_)
      obtain ⟨hI, er20⟩ := hp
      replace hI : md_I D cs H x g (upd i 0 0) f := hI
      refine lv_eqi (y := 1) er20 ?_
      refine lv_if_eq (x := 1) (tgt := 35) hx hb d_Md_found_23 (by decide) (fun c23 => ?_) (fun c23 => ?_)
      · exact absurd c23 (by decide)
      · skip
        have hq : isN fc q = true := by simp [isN, c2, c10]
        obtain ⟨ha, ea⟩ := isN_n hq (by omega)
        refine lv_aload_n hx hb d_Md_found_26 rfl (lv_at hl 0 rfl) ?_
        refine hx_get (v := .ref (g 20)) hx hb htg iMd hown hK hI.1 rfl 26 (by decide) (htg _ (gw_mem (i := 1024) (by decide +kernel) rfl)) (fun _ h9 => h9) rfl d_Md_found_27 ?_
        refine lv_iload_n hx hb d_Md_found_30 rfl (lv_at hl 1 rfl) ?_
        refine lv_eqi (y := (nI (tn q))) ea ?_
        refine hx_iald hx hb hK 0 (hI.2 20 (by decide)) rfl (show vp_in (nI (tn q)) 24 from vp_in_nI (n := tn q) (by omega) (by decide)) d_Md_found_31 ?_
        refine lv_eqi (y := (f 20 (tn q))) (show f 20 (nI (tn q)).toNatClampNeg = _ by rw [nI_clamp (by omega)]) ?_
        refine lv_goto (tgt := 36) hx hb d_Md_found_32 (by decide) ?_
        exact W.iret (v := (f 20 (tn q))) hx hb hr (fun t ht hW => ⟨⟨(f 20 (tn q)), H, rfl, by dsimp only; have e0 : (isN fc q) = true := (by first | (simp [isN, c2, c10]; done) | (simp [isN, c2, c10]; omega) | omega | simp_all [isN]); rw [e0]; rw [if_pos (show goB true true true = true from rfl)]; exact ⟨hI, rfl⟩, ht⟩, hS.F ht⟩) hS.2.2 d_Md_found_36
def y_Md_candidate : MethodName := ⟨"NameMergesModel", "candidate", "(II)I"⟩
abbrev w_Md_candidate : List Cond := Cond.code y_Md_candidate prog_7_method_16_code 3 (Option.some Jvm.ClassFile.FieldType.int) :: gw
theorem d_Md_candidate_0 : decode prog_7_method_16_code 0 = .ok (.aload_n 0, 1) := by decide +kernel
theorem d_Md_candidate_1 : decode prog_7_method_16_code 1 = .ok (.iload_n 1, 1) := by decide +kernel
theorem d_Md_candidate_2 : decode prog_7_method_16_code 2 = .ok (.ifCond .lt 24, 3) := by decide +kernel
theorem d_Md_candidate_5 : decode prog_7_method_16_code 5 = .ok (.iload_n 1, 1) := by decide +kernel
theorem d_Md_candidate_6 : decode prog_7_method_16_code 6 = .ok (.aload_n 0, 1) := by decide +kernel
theorem d_Md_candidate_7 : decode prog_7_method_16_code 7 = .ok (.getfield 113, 3) := by decide +kernel
theorem d_Md_candidate_10 : decode prog_7_method_16_code 10 = .ok (.if_icmp .ge 16, 3) := by decide +kernel
theorem d_Md_candidate_13 : decode prog_7_method_16_code 13 = .ok (.iload_n 2, 1) := by decide +kernel
theorem d_Md_candidate_14 : decode prog_7_method_16_code 14 = .ok (.ifCond .eq 8, 3) := by decide +kernel
theorem d_Md_candidate_17 : decode prog_7_method_16_code 17 = .ok (.iload_n 2, 1) := by decide +kernel
theorem d_Md_candidate_18 : decode prog_7_method_16_code 18 = .ok (.iconst 1, 1) := by decide +kernel
theorem d_Md_candidate_19 : decode prog_7_method_16_code 19 = .ok (.if_icmp .ne 7, 3) := by decide +kernel
theorem d_Md_candidate_22 : decode prog_7_method_16_code 22 = .ok (.iconst 1, 1) := by decide +kernel
theorem d_Md_candidate_23 : decode prog_7_method_16_code 23 = .ok (.goto 4, 3) := by decide +kernel
theorem d_Md_candidate_26 : decode prog_7_method_16_code 26 = .ok (.iconst 0, 1) := by decide +kernel
theorem d_Md_candidate_27 : decode prog_7_method_16_code 27 = .ok (.iconst 1, 1) := by decide +kernel
theorem d_Md_candidate_28 : decode prog_7_method_16_code 28 = .ok (.iconst 1, 1) := by decide +kernel
theorem d_Md_candidate_29 : decode prog_7_method_16_code 29 = .ok (.invokevirtual 88, 3) := by decide +kernel
theorem d_Md_candidate_32 : decode prog_7_method_16_code 32 = .ok (.ifCond .ne 5, 3) := by decide +kernel
theorem d_Md_candidate_35 : decode prog_7_method_16_code 35 = .ok (.iconst 0, 1) := by decide +kernel
theorem d_Md_candidate_36 : decode prog_7_method_16_code 36 = .ok (.ireturn, 1) := by decide +kernel
theorem d_Md_candidate_37 : decode prog_7_method_16_code 37 = .ok (.iload_n 2, 1) := by decide +kernel
theorem d_Md_candidate_38 : decode prog_7_method_16_code 38 = .ok (.ifCond .ne 12, 3) := by decide +kernel
theorem d_Md_candidate_41 : decode prog_7_method_16_code 41 = .ok (.aload_n 0, 1) := by decide +kernel
theorem d_Md_candidate_42 : decode prog_7_method_16_code 42 = .ok (.getfield 65, 3) := by decide +kernel
theorem d_Md_candidate_45 : decode prog_7_method_16_code 45 = .ok (.iload_n 1, 1) := by decide +kernel
theorem d_Md_candidate_46 : decode prog_7_method_16_code 46 = .ok (.iaload, 1) := by decide +kernel
theorem d_Md_candidate_47 : decode prog_7_method_16_code 47 = .ok (.goto 9, 3) := by decide +kernel
theorem d_Md_candidate_50 : decode prog_7_method_16_code 50 = .ok (.aload_n 0, 1) := by decide +kernel
theorem d_Md_candidate_51 : decode prog_7_method_16_code 51 = .ok (.getfield 68, 3) := by decide +kernel
theorem d_Md_candidate_54 : decode prog_7_method_16_code 54 = .ok (.iload_n 1, 1) := by decide +kernel
theorem d_Md_candidate_55 : decode prog_7_method_16_code 55 = .ok (.iaload, 1) := by decide +kernel
theorem d_Md_candidate_56 : decode prog_7_method_16_code 56 = .ok (.ireturn, 1) := by decide +kernel
set_option maxHeartbeats 4000000 in
set_option maxRecDepth 100000 in
theorem c_Md_candidate (l : Launch) (D : va_G) (cs : Nat → ClassId) (N0 : Nat) (H : Heap) (x : Nat) (g : Nat → Nat) (i : Nat → Int32) (f : Nat → Nat → Int32) (q sd : Int32) (hsep : md_sep N0 x g) (hI : md_I D cs H x g i f) (pc : Nat) (hpc : i 4 = nI pc) (hp276 : pc ≤ 276) : Met l y_Md_candidate w_Md_candidate ({ frames := 1, cells := 0, slots := 0, locals := 23 }) (hPre D cs N0 [.ref x, .int q, .int sd] H) (hQi (fun r H' => if goB (isN pc q && (decide (sd = 0) || decide (sd = 1))) true true = true then (md_I D cs H' x g (upd i 0 (goV (isN pc q && (decide (sd = 0) || decide (sd = 1))) true true)) f ∧ r = if sd = 0 then f 18 (tn q) else f 19 (tn q)) else (md_I D cs H' x g (upd i 0 (goV (isN pc q && (decide (sd = 0) || decide (sd = 1))) true true)) f ∧ r = 0)) (md_A x g)) 0 0 (md_A x g) := by
  refine Met.ofW (cc := prog_7_method_16_code) (maxL := 3) (ret := (Option.some Jvm.ClassFile.FieldType.int)) (by decide) rfl ?_
  intro p e s m args below meth c s₁ B hml hv
  obtain ⟨rfl, rfl, hB⟩ := hv
  have hx := B.exec
  have hb := B.bytes
  have hr := B.returns
  have hts := atoms_spec (ws := w_Md_candidate) B.pre
  have htg : ∀ w ∈ gw, w.before _ s = true := fun w h => hts w (List.mem_cons_of_mem _ h)
  have hown : s.vm.findClass "NameMergesModel" = some m.cls := findClass_of_methodNamed B.named
  have hlocks := B.notSynchronized
  have hK := hB.1
  have hS : va_S (md_A x g) s.heap s.heap [] := va_S.rf
  obtain ⟨H, hH⟩ : ∃ z : Heap, z = s.heap := ⟨_, rfl⟩
  rw [← hH] at hI
  have hS : va_S (md_A x g) s.heap H [] := by rw [hH]; exact va_S.rf
  have hl := lv_entry ([.ref x, .int q, .int sd]) (n := 3) (Nat.le_of_ble_eq_true rfl)
  rw [lg_entry_eq, ← hH]
  generalize (lg_sl ([.ref x, .int q, .int sd]) ++ List.replicate (3 - (lg_sl ([.ref x, .int q, .int sd])).length) Slot.unset).toArray = ls at hl ⊢
  have hl : lv_has ls 3 [(0, .ref x), (1, .int q), (2, .int sd)] := hl
  refine lv_aload_n hx hb d_Md_candidate_0 rfl (lv_at hl 0 rfl) ?_
  refine lv_iload_n hx hb d_Md_candidate_1 rfl (lv_at hl 1 rfl) ?_
  refine lv_if_lt (x := q) (tgt := 26) hx hb d_Md_candidate_2 (by decide) (fun c2 => ?_) (fun c2 => ?_)
  · skip
    refine lv_iconst (v := 0) hx hb d_Md_candidate_26 (by decide) ?_
    refine lv_iconst (v := 1) hx hb d_Md_candidate_27 (by decide) ?_
    refine lv_iconst (v := 1) hx hb d_Md_candidate_28 (by decide) ?_
    refine h_calli (va_runV (As := [.int 0, .int 1, .int 1]) (rest := []) ⟨hx, hb, hml, hown, htg⟩ (c_Md_goes l D cs N0 H x g i f false true true hsep hI) (cwV 3 htg (gw_V (gw_mem (i := 1092) (by decide +kernel) rfl) (gw_mem (i := 1094) (by decide +kernel) rfl) (gw_mem (i := 18) (by decide +kernel) rfl) (gw_mem (i := 38) (by decide +kernel) rfl) (gw_mem (i := 1095) (by decide +kernel) rfl)) rfl rfl rfl (by decide +kernel) ⟨Nat.le_of_ble_eq_true rfl, Nat.le_of_ble_eq_true rfl⟩) ⟨hPre.blind, hx_recv hK (ci := 0) rfl hI.1, hPre.at hB hS hsep.A⟩ rfl rfl hl.1 rfl (lv_room (Nat.le_of_ble_eq_true rfl)) d_Md_candidate_29 ⟨Nat.zero_le _, Nat.zero_le _⟩) hS (fun _ h => h) (fun r29 H locs hp hz hk hS => ?_)
    obtain ⟨hI, er29⟩ := hp
    replace hI : md_I D cs H x g (upd i 0 1) f := hI
    refine lv_eqi (y := 0) er29 ?_
    refine lv_if_ne (x := 0) (tgt := 37) hx hb d_Md_candidate_32 (by decide) (fun c32 => ?_) (fun c32 => ?_)
    · exact absurd c32 (by decide)
    · skip
      refine lv_iconst (v := 0) hx hb d_Md_candidate_35 (by decide) ?_
      exact W.iret (v := 0) hx hb hr (fun t ht hW => ⟨⟨0, H, rfl, by dsimp only; have e0 : (isN pc q && (decide (sd = 0) || decide (sd = 1))) = false := (by first | (simp [isN, c2]; done) | (simp [isN, c2]; omega) | omega | simp_all [isN]); rw [e0]; rw [if_neg (show ¬ goB false true true = true by simp [goB])]; exact ⟨hI, rfl⟩, ht⟩, hS.F ht⟩) hS.2.2 d_Md_candidate_36
  · skip
    refine lv_iload_n hx hb d_Md_candidate_5 rfl (lv_at hl 1 rfl) ?_
    refine lv_aload_n hx hb d_Md_candidate_6 rfl (lv_at hl 0 rfl) ?_
    refine hx_get (v := .int (i 4)) hx hb htg iMd hown hK hI.1 rfl 22 (by decide) (htg _ (gw_mem (i := 1020) (by decide +kernel) rfl)) (fun _ h9 => h9) rfl d_Md_candidate_7 ?_
    refine lv_eqi (y := (nI pc)) hpc ?_
    refine lv_icmp_ge (x := q) (y := (nI pc)) (tgt := 26) hx hb d_Md_candidate_10 (by decide) (fun c10 => ?_) (fun c10 => ?_)
    · skip
      refine lv_iconst (v := 0) hx hb d_Md_candidate_26 (by decide) ?_
      refine lv_iconst (v := 1) hx hb d_Md_candidate_27 (by decide) ?_
      refine lv_iconst (v := 1) hx hb d_Md_candidate_28 (by decide) ?_
      refine h_calli (va_runV (As := [.int 0, .int 1, .int 1]) (rest := []) ⟨hx, hb, hml, hown, htg⟩ (c_Md_goes l D cs N0 H x g i f false true true hsep hI) (cwV 3 htg (gw_V (gw_mem (i := 1092) (by decide +kernel) rfl) (gw_mem (i := 1094) (by decide +kernel) rfl) (gw_mem (i := 18) (by decide +kernel) rfl) (gw_mem (i := 38) (by decide +kernel) rfl) (gw_mem (i := 1095) (by decide +kernel) rfl)) rfl rfl rfl (by decide +kernel) ⟨Nat.le_of_ble_eq_true rfl, Nat.le_of_ble_eq_true rfl⟩) ⟨hPre.blind, hx_recv hK (ci := 0) rfl hI.1, hPre.at hB hS hsep.A⟩ rfl rfl hl.1 rfl (lv_room (Nat.le_of_ble_eq_true rfl)) d_Md_candidate_29 ⟨Nat.zero_le _, Nat.zero_le _⟩) hS (fun _ h => h) (fun r29 H locs hp hz hk hS => ?_)
      obtain ⟨hI, er29⟩ := hp
      replace hI : md_I D cs H x g (upd i 0 1) f := hI
      refine lv_eqi (y := 0) er29 ?_
      refine lv_if_ne (x := 0) (tgt := 37) hx hb d_Md_candidate_32 (by decide) (fun c32 => ?_) (fun c32 => ?_)
      · exact absurd c32 (by decide)
      · skip
        refine lv_iconst (v := 0) hx hb d_Md_candidate_35 (by decide) ?_
        exact W.iret (v := 0) hx hb hr (fun t ht hW => ⟨⟨0, H, rfl, by dsimp only; have e0 : (isN pc q && (decide (sd = 0) || decide (sd = 1))) = false := (by first | (simp [isN, c2, c10]; done) | (simp [isN, c2, c10]; omega) | omega | simp_all [isN]); rw [e0]; rw [if_neg (show ¬ goB false true true = true by simp [goB])]; exact ⟨hI, rfl⟩, ht⟩, hS.F ht⟩) hS.2.2 d_Md_candidate_36
    · skip
      refine lv_iload_n hx hb d_Md_candidate_13 rfl (lv_at hl 2 rfl) ?_
      refine lv_if_eq (x := sd) (tgt := 22) hx hb d_Md_candidate_14 (by decide) (fun c14 => ?_) (fun c14 => ?_)
      · skip
        refine lv_iconst (v := 1) hx hb d_Md_candidate_22 (by decide) ?_
        refine lv_goto (tgt := 27) hx hb d_Md_candidate_23 (by decide) ?_
        refine lv_iconst (v := 1) hx hb d_Md_candidate_27 (by decide) ?_
        refine lv_iconst (v := 1) hx hb d_Md_candidate_28 (by decide) ?_
        refine h_calli (va_runV (As := [.int 1, .int 1, .int 1]) (rest := []) ⟨hx, hb, hml, hown, htg⟩ (c_Md_goes l D cs N0 H x g i f true true true hsep hI) (cwV 3 htg (gw_V (gw_mem (i := 1092) (by decide +kernel) rfl) (gw_mem (i := 1094) (by decide +kernel) rfl) (gw_mem (i := 18) (by decide +kernel) rfl) (gw_mem (i := 38) (by decide +kernel) rfl) (gw_mem (i := 1095) (by decide +kernel) rfl)) rfl rfl rfl (by decide +kernel) ⟨Nat.le_of_ble_eq_true rfl, Nat.le_of_ble_eq_true rfl⟩) ⟨hPre.blind, hx_recv hK (ci := 0) rfl hI.1, hPre.at hB hS hsep.A⟩ rfl rfl hl.1 rfl (lv_room (Nat.le_of_ble_eq_true rfl)) d_Md_candidate_29 ⟨Nat.zero_le _, Nat.zero_le _⟩) hS (fun _ h => h) (fun r29 H locs hp hz hk hS => ?_)
        obtain ⟨hI, er29⟩ := hp
        replace hI : md_I D cs H x g (upd i 0 0) f := hI
        refine lv_eqi (y := 1) er29 ?_
        refine lv_if_ne (x := 1) (tgt := 37) hx hb d_Md_candidate_32 (by decide) (fun c32 => ?_) (fun c32 => ?_)
        · skip
          have hq : isN pc q = true := by simp [isN, c2, c10]
          obtain ⟨ha, ea⟩ := isN_n hq (by omega)
          refine lv_iload_n hx hb d_Md_candidate_37 rfl (lv_at hl 2 rfl) ?_
          refine lv_if_ne (x := sd) (tgt := 50) hx hb d_Md_candidate_38 (by decide) (fun c38 => ?_) (fun c38 => ?_)
          · skip
            refine lv_aload_n hx hb d_Md_candidate_50 rfl (lv_at hl 0 rfl) ?_
            refine hx_get (v := .ref (g 19)) hx hb htg iMd hown hK hI.1 rfl 24 (by decide) (htg _ (gw_mem (i := 1022) (by decide +kernel) rfl)) (fun _ h9 => h9) rfl d_Md_candidate_51 ?_
            refine lv_iload_n hx hb d_Md_candidate_54 rfl (lv_at hl 1 rfl) ?_
            refine lv_eqi (y := (nI (tn q))) ea ?_
            refine hx_iald hx hb hK 0 (hI.2 19 (by decide)) rfl (show vp_in (nI (tn q)) 276 from vp_in_nI (n := tn q) (by omega) (by decide)) d_Md_candidate_55 ?_
            refine lv_eqi (y := (f 19 (tn q))) (show f 19 (nI (tn q)).toNatClampNeg = _ by rw [nI_clamp (by omega)]) ?_
            exact W.iret (v := (f 19 (tn q))) hx hb hr (fun t ht hW => ⟨⟨(f 19 (tn q)), H, rfl, by dsimp only; have e0 : (isN pc q && (decide (sd = 0) || decide (sd = 1))) = true := (by first | (simp [isN, c2, c10, c14, c38]; done) | (simp [isN, c2, c10, c14, c38]; omega) | omega | simp_all [isN]); rw [e0]; rw [if_pos (show goB true true true = true from rfl)]; exact ⟨hI, by simp [c38]⟩, ht⟩, hS.F ht⟩) hS.2.2 d_Md_candidate_56
          · skip
            refine lv_aload_n hx hb d_Md_candidate_41 rfl (lv_at hl 0 rfl) ?_
            refine hx_get (v := .ref (g 18)) hx hb htg iMd hown hK hI.1 rfl 23 (by decide) (htg _ (gw_mem (i := 1021) (by decide +kernel) rfl)) (fun _ h9 => h9) rfl d_Md_candidate_42 ?_
            refine lv_iload_n hx hb d_Md_candidate_45 rfl (lv_at hl 1 rfl) ?_
            refine lv_eqi (y := (nI (tn q))) ea ?_
            refine hx_iald hx hb hK 0 (hI.2 18 (by decide)) rfl (show vp_in (nI (tn q)) 276 from vp_in_nI (n := tn q) (by omega) (by decide)) d_Md_candidate_46 ?_
            refine lv_eqi (y := (f 18 (tn q))) (show f 18 (nI (tn q)).toNatClampNeg = _ by rw [nI_clamp (by omega)]) ?_
            refine lv_goto (tgt := 56) hx hb d_Md_candidate_47 (by decide) ?_
            exact W.iret (v := (f 18 (tn q))) hx hb hr (fun t ht hW => ⟨⟨(f 18 (tn q)), H, rfl, by dsimp only; have e0 : (isN pc q && (decide (sd = 0) || decide (sd = 1))) = true := (by first | (simp [isN, c2, c10, c14, c38]; done) | (simp [isN, c2, c10, c14, c38]; omega) | omega | simp_all [isN]); rw [e0]; rw [if_pos (show goB true true true = true from rfl)]; exact ⟨hI, by simp [c38]⟩, ht⟩, hS.F ht⟩) hS.2.2 d_Md_candidate_56
        · exact absurd c32 (by decide)
      · skip
        refine lv_iload_n hx hb d_Md_candidate_17 rfl (lv_at hl 2 rfl) ?_
        refine lv_iconst (v := 1) hx hb d_Md_candidate_18 (by decide) ?_
        refine lv_icmp_ne (x := sd) (y := 1) (tgt := 26) hx hb d_Md_candidate_19 (by decide) (fun c19 => ?_) (fun c19 => ?_)
        · skip
          refine lv_iconst (v := 0) hx hb d_Md_candidate_26 (by decide) ?_
          refine lv_iconst (v := 1) hx hb d_Md_candidate_27 (by decide) ?_
          refine lv_iconst (v := 1) hx hb d_Md_candidate_28 (by decide) ?_
          refine h_calli (va_runV (As := [.int 0, .int 1, .int 1]) (rest := []) ⟨hx, hb, hml, hown, htg⟩ (c_Md_goes l D cs N0 H x g i f false true true hsep hI) (cwV 3 htg (gw_V (gw_mem (i := 1092) (by decide +kernel) rfl) (gw_mem (i := 1094) (by decide +kernel) rfl) (gw_mem (i := 18) (by decide +kernel) rfl) (gw_mem (i := 38) (by decide +kernel) rfl) (gw_mem (i := 1095) (by decide +kernel) rfl)) rfl rfl rfl (by decide +kernel) ⟨Nat.le_of_ble_eq_true rfl, Nat.le_of_ble_eq_true rfl⟩) ⟨hPre.blind, hx_recv hK (ci := 0) rfl hI.1, hPre.at hB hS hsep.A⟩ rfl rfl hl.1 rfl (lv_room (Nat.le_of_ble_eq_true rfl)) d_Md_candidate_29 ⟨Nat.zero_le _, Nat.zero_le _⟩) hS (fun _ h => h) (fun r29 H locs hp hz hk hS => ?_)
          obtain ⟨hI, er29⟩ := hp
          replace hI : md_I D cs H x g (upd i 0 1) f := hI
          refine lv_eqi (y := 0) er29 ?_
          refine lv_if_ne (x := 0) (tgt := 37) hx hb d_Md_candidate_32 (by decide) (fun c32 => ?_) (fun c32 => ?_)
          · exact absurd c32 (by decide)
          · skip
            refine lv_iconst (v := 0) hx hb d_Md_candidate_35 (by decide) ?_
            exact W.iret (v := 0) hx hb hr (fun t ht hW => ⟨⟨0, H, rfl, by dsimp only; have e0 : (isN pc q && (decide (sd = 0) || decide (sd = 1))) = false := (by first | (simp [isN, c2, c10, c14, c19]; done) | (simp [isN, c2, c10, c14, c19]; omega) | omega | simp_all [isN]); rw [e0]; rw [if_neg (show ¬ goB false true true = true by simp [goB])]; exact ⟨hI, rfl⟩, ht⟩, hS.F ht⟩) hS.2.2 d_Md_candidate_36
        · skip
          refine lv_iconst (v := 1) hx hb d_Md_candidate_22 (by decide) ?_
          refine lv_goto (tgt := 27) hx hb d_Md_candidate_23 (by decide) ?_
          refine lv_iconst (v := 1) hx hb d_Md_candidate_27 (by decide) ?_
          refine lv_iconst (v := 1) hx hb d_Md_candidate_28 (by decide) ?_
          refine h_calli (va_runV (As := [.int 1, .int 1, .int 1]) (rest := []) ⟨hx, hb, hml, hown, htg⟩ (c_Md_goes l D cs N0 H x g i f true true true hsep hI) (cwV 3 htg (gw_V (gw_mem (i := 1092) (by decide +kernel) rfl) (gw_mem (i := 1094) (by decide +kernel) rfl) (gw_mem (i := 18) (by decide +kernel) rfl) (gw_mem (i := 38) (by decide +kernel) rfl) (gw_mem (i := 1095) (by decide +kernel) rfl)) rfl rfl rfl (by decide +kernel) ⟨Nat.le_of_ble_eq_true rfl, Nat.le_of_ble_eq_true rfl⟩) ⟨hPre.blind, hx_recv hK (ci := 0) rfl hI.1, hPre.at hB hS hsep.A⟩ rfl rfl hl.1 rfl (lv_room (Nat.le_of_ble_eq_true rfl)) d_Md_candidate_29 ⟨Nat.zero_le _, Nat.zero_le _⟩) hS (fun _ h => h) (fun r29 H locs hp hz hk hS => ?_)
          obtain ⟨hI, er29⟩ := hp
          replace hI : md_I D cs H x g (upd i 0 0) f := hI
          refine lv_eqi (y := 1) er29 ?_
          refine lv_if_ne (x := 1) (tgt := 37) hx hb d_Md_candidate_32 (by decide) (fun c32 => ?_) (fun c32 => ?_)
          · skip
            have hq : isN pc q = true := by simp [isN, c2, c10]
            obtain ⟨ha, ea⟩ := isN_n hq (by omega)
            refine lv_iload_n hx hb d_Md_candidate_37 rfl (lv_at hl 2 rfl) ?_
            refine lv_if_ne (x := sd) (tgt := 50) hx hb d_Md_candidate_38 (by decide) (fun c38 => ?_) (fun c38 => ?_)
            · skip
              refine lv_aload_n hx hb d_Md_candidate_50 rfl (lv_at hl 0 rfl) ?_
              refine hx_get (v := .ref (g 19)) hx hb htg iMd hown hK hI.1 rfl 24 (by decide) (htg _ (gw_mem (i := 1022) (by decide +kernel) rfl)) (fun _ h9 => h9) rfl d_Md_candidate_51 ?_
              refine lv_iload_n hx hb d_Md_candidate_54 rfl (lv_at hl 1 rfl) ?_
              refine lv_eqi (y := (nI (tn q))) ea ?_
              refine hx_iald hx hb hK 0 (hI.2 19 (by decide)) rfl (show vp_in (nI (tn q)) 276 from vp_in_nI (n := tn q) (by omega) (by decide)) d_Md_candidate_55 ?_
              refine lv_eqi (y := (f 19 (tn q))) (show f 19 (nI (tn q)).toNatClampNeg = _ by rw [nI_clamp (by omega)]) ?_
              exact W.iret (v := (f 19 (tn q))) hx hb hr (fun t ht hW => ⟨⟨(f 19 (tn q)), H, rfl, by dsimp only; have e0 : (isN pc q && (decide (sd = 0) || decide (sd = 1))) = true := (by first | (simp [isN, c2, c10, c14, c19, c38]; done) | (simp [isN, c2, c10, c14, c19, c38]; omega) | omega | simp_all [isN]); rw [e0]; rw [if_pos (show goB true true true = true from rfl)]; exact ⟨hI, by simp [c38]⟩, ht⟩, hS.F ht⟩) hS.2.2 d_Md_candidate_56
            · skip
              refine lv_aload_n hx hb d_Md_candidate_41 rfl (lv_at hl 0 rfl) ?_
              refine hx_get (v := .ref (g 18)) hx hb htg iMd hown hK hI.1 rfl 23 (by decide) (htg _ (gw_mem (i := 1021) (by decide +kernel) rfl)) (fun _ h9 => h9) rfl d_Md_candidate_42 ?_
              refine lv_iload_n hx hb d_Md_candidate_45 rfl (lv_at hl 1 rfl) ?_
              refine lv_eqi (y := (nI (tn q))) ea ?_
              refine hx_iald hx hb hK 0 (hI.2 18 (by decide)) rfl (show vp_in (nI (tn q)) 276 from vp_in_nI (n := tn q) (by omega) (by decide)) d_Md_candidate_46 ?_
              refine lv_eqi (y := (f 18 (tn q))) (show f 18 (nI (tn q)).toNatClampNeg = _ by rw [nI_clamp (by omega)]) ?_
              refine lv_goto (tgt := 56) hx hb d_Md_candidate_47 (by decide) ?_
              exact W.iret (v := (f 18 (tn q))) hx hb hr (fun t ht hW => ⟨⟨(f 18 (tn q)), H, rfl, by dsimp only; have e0 : (isN pc q && (decide (sd = 0) || decide (sd = 1))) = true := (by first | (simp [isN, c2, c10, c14, c19, c38]; done) | (simp [isN, c2, c10, c14, c19, c38]; omega) | omega | simp_all [isN]); rw [e0]; rw [if_pos (show goB true true true = true from rfl)]; exact ⟨hI, by simp [c38]⟩, ht⟩, hS.F ht⟩) hS.2.2 d_Md_candidate_56
          · exact absurd c32 (by decide)
def y_Md_owner : MethodName := ⟨"NameMergesModel", "owner", "(II)I"⟩
abbrev w_Md_owner : List Cond := Cond.code y_Md_owner prog_7_method_31_code 4 (Option.some Jvm.ClassFile.FieldType.int) :: gw
theorem d_Md_owner_0 : decode prog_7_method_31_code 0 = .ok (.iconst 0, 1) := by decide +kernel
theorem d_Md_owner_1 : decode prog_7_method_31_code 1 = .ok (.istore_n 3, 1) := by decide +kernel
theorem d_Md_owner_2 : decode prog_7_method_31_code 2 = .ok (.iload_n 3, 1) := by decide +kernel
theorem d_Md_owner_3 : decode prog_7_method_31_code 3 = .ok (.aload_n 0, 1) := by decide +kernel
theorem d_Md_owner_4 : decode prog_7_method_31_code 4 = .ok (.getfield 81, 3) := by decide +kernel
theorem d_Md_owner_7 : decode prog_7_method_31_code 7 = .ok (.if_icmp .ge 29, 3) := by decide +kernel
theorem d_Md_owner_10 : decode prog_7_method_31_code 10 = .ok (.iload_n 2, 1) := by decide +kernel
theorem d_Md_owner_11 : decode prog_7_method_31_code 11 = .ok (.ifCond .le 19, 3) := by decide +kernel
theorem d_Md_owner_14 : decode prog_7_method_31_code 14 = .ok (.aload_n 0, 1) := by decide +kernel
theorem d_Md_owner_15 : decode prog_7_method_31_code 15 = .ok (.getfield 47, 3) := by decide +kernel
theorem d_Md_owner_18 : decode prog_7_method_31_code 18 = .ok (.iconst 4, 1) := by decide +kernel
theorem d_Md_owner_19 : decode prog_7_method_31_code 19 = .ok (.iload_n 3, 1) := by decide +kernel
theorem d_Md_owner_20 : decode prog_7_method_31_code 20 = .ok (.imul, 1) := by decide +kernel
theorem d_Md_owner_21 : decode prog_7_method_31_code 21 = .ok (.iload_n 1, 1) := by decide +kernel
theorem d_Md_owner_22 : decode prog_7_method_31_code 22 = .ok (.iadd, 1) := by decide +kernel
theorem d_Md_owner_23 : decode prog_7_method_31_code 23 = .ok (.iaload, 1) := by decide +kernel
theorem d_Md_owner_24 : decode prog_7_method_31_code 24 = .ok (.iload_n 2, 1) := by decide +kernel
theorem d_Md_owner_25 : decode prog_7_method_31_code 25 = .ok (.if_icmp .ne 5, 3) := by decide +kernel
theorem d_Md_owner_28 : decode prog_7_method_31_code 28 = .ok (.iload_n 3, 1) := by decide +kernel
theorem d_Md_owner_29 : decode prog_7_method_31_code 29 = .ok (.ireturn, 1) := by decide +kernel
theorem d_Md_owner_30 : decode prog_7_method_31_code 30 = .ok (.iinc 3 1, 3) := by decide +kernel
theorem d_Md_owner_33 : decode prog_7_method_31_code 33 = .ok (.goto (-31), 3) := by decide +kernel
theorem d_Md_owner_36 : decode prog_7_method_31_code 36 = .ok (.iconst (-1), 1) := by decide +kernel
theorem d_Md_owner_37 : decode prog_7_method_31_code 37 = .ok (.ireturn, 1) := by decide +kernel
set_option maxHeartbeats 4000000 in
set_option maxRecDepth 100000 in
theorem c_Md_owner (l : Launch) (D : va_G) (cs : Nat → ClassId) (N0 : Nat) (H : Heap) (x : Nat) (g : Nat → Nat) (i : Nat → Int32) (f : Nat → Nat → Int32) (st : Nat) (q : Int32) (hsep : md_sep N0 x g) (hI : md_I D cs H x g i f) (n : Nat) (hn : i 2 = nI n) (hn24 : n ≤ 24) (hst : st < 4) : Met l y_Md_owner w_Md_owner ({ frames := 0, cells := 0, slots := 0, locals := 0 }) (hPre D cs N0 [.ref x, .int (nI st), .int q] H) (hQi (fun r H' => md_I D cs H' x g i f ∧ r = fstFrom (ownP f st q) 0 n) (md_A x g)) 0 0 (md_A x g) := by
  refine Met.ofW (cc := prog_7_method_31_code) (maxL := 4) (ret := (Option.some Jvm.ClassFile.FieldType.int)) (by decide) rfl ?_
  intro p e s m args below meth c s₁ B hml hv
  obtain ⟨rfl, rfl, hB⟩ := hv
  have hx := B.exec
  have hb := B.bytes
  have hr := B.returns
  have hts := atoms_spec (ws := w_Md_owner) B.pre
  have htg : ∀ w ∈ gw, w.before _ s = true := fun w h => hts w (List.mem_cons_of_mem _ h)
  have hown : s.vm.findClass "NameMergesModel" = some m.cls := findClass_of_methodNamed B.named
  have hlocks := B.notSynchronized
  have hK := hB.1
  have hS : va_S (md_A x g) s.heap s.heap [] := va_S.rf
  obtain ⟨H, hH⟩ : ∃ z : Heap, z = s.heap := ⟨_, rfl⟩
  rw [← hH] at hI
  have hS : va_S (md_A x g) s.heap H [] := by rw [hH]; exact va_S.rf
  have hl := lv_entry ([.ref x, .int (nI st), .int q]) (n := 4) (Nat.le_of_ble_eq_true rfl)
  rw [lg_entry_eq, ← hH]
  generalize (lg_sl ([.ref x, .int (nI st), .int q]) ++ List.replicate (4 - (lg_sl ([.ref x, .int (nI st), .int q])).length) Slot.unset).toArray = ls at hl ⊢
  have hl : lv_has ls 4 [(0, .ref x), (1, .int (nI st)), (2, .int q)] := hl
  refine lv_iconst (v := 0) hx hb d_Md_owner_0 (by decide) ?_
  refine lv_istore_n (lv' := [(3, .int 0), (0, .ref x), (1, .int (nI st)), (2, .int q)]) hx hb d_Md_owner_1 rfl hl (by decide) rfl (fun ls hl => ?_)
  have loop2 : ∀ (fuel : Nat) (k : Nat), n - k < fuel → (k ≤ n) → (fstFrom (ownP f st q) 0 n = fstFrom (ownP f st q) k (n - k)) → ∀ (locs : List Loc), va_S (md_A x g) s.heap H locs → ∀ (ls : Array Slot), lv_has ls 4 [(0, .ref x), (1, .int (nI st)), (2, .int q), (3, .int (nI k))] → W p l e (headSpec w_Md_owner ({ frames := 0, cells := 0, slots := 0, locals := 0 })).room s m ([.ref x, .int (nI st), .int q] : List Value).toArray below meth c H locs 0 0 (MQ below (hQi (fun r H' => md_I D cs H' x g i f ∧ r = fstFrom (ownP f st q) 0 n) (md_A x g)) ([.ref x, .int (nI st), .int q] : List Value).toArray s 0 0 (md_A x g)) (F0 m 2 ls []) := by
    intro fuel2
    induction fuel2 with
    | zero => intro k hn; exact absurd hn (Nat.not_lt_zero _)
    | succ fuel2 ih2 =>
      intro k hn2 hk hf locs hS ls hl
      refine lv_iload_n hx hb d_Md_owner_2 rfl (lv_at hl 3 rfl) ?_
      refine lv_aload_n hx hb d_Md_owner_3 rfl (lv_at hl 0 rfl) ?_
      refine hx_get (v := .int (i 2)) hx hb htg iMd hown hK hI.1 rfl 3 (by decide) (htg _ (gw_mem (i := 1001) (by decide +kernel) rfl)) (fun _ h9 => h9) rfl d_Md_owner_4 ?_
      refine lv_eqi (y := (nI n)) hn ?_
      refine lv_icmp_ge (x := (nI k)) (y := (nI n)) (tgt := 36) hx hb d_Md_owner_7 (by decide) (fun c7 => ?_) (fun c7 => ?_)
      · skip
        replace c7 : n ≤ k := (nI_leI (a := n) (b := k) (by omega) (by omega)).mp c7
        refine lv_iconst (v := (-1)) hx hb d_Md_owner_36 (by decide) ?_
        exact W.iret (v := (-1)) hx hb hr (fun t ht hW => ⟨⟨(-1), H, rfl, ⟨hI, (hf.trans (fst_end (by omega))).symm⟩, ht⟩, hS.F ht⟩) hS.2.2 d_Md_owner_37
      · skip
        replace c7 : ¬ (n ≤ k) := fun z9 => c7 ((nI_leI (a := n) (b := k) (by omega) (by omega)).mpr z9)
        refine lv_iload_n hx hb d_Md_owner_10 rfl (lv_at hl 2 rfl) ?_
        refine lv_if_le (x := q) (tgt := 30) hx hb d_Md_owner_11 (by decide) (fun c11 => ?_) (fun c11 => ?_)
        · skip
          refine lv_iinc (v := (nI (k + 1))) (lv' := [(3, .int (nI (k + 1))), (0, .ref x), (1, .int (nI st)), (2, .int q)]) hx hb d_Md_owner_30 hl (k := 3) rfl (nI_1 k) (by decide) rfl (fun ls hl => ?_)
          refine lv_goto (tgt := 2) hx hb d_Md_owner_33 (by decide) ?_
          exact ih2  (k + 1) (by omega) (by omega) (hf.trans (fst_miss (by omega) (by simp [ownP, c11]))) _ hS ls (lv_sub hl [1, 2, 3, 0] rfl)
        · skip
          refine lv_aload_n hx hb d_Md_owner_14 rfl (lv_at hl 0 rfl) ?_
          refine hx_get (v := .ref (g 12)) hx hb htg iMd hown hK hI.1 rfl 15 (by decide) (htg _ (gw_mem (i := 1013) (by decide +kernel) rfl)) (fun _ h9 => h9) rfl d_Md_owner_15 ?_
          refine lv_iconst (v := 4) hx hb d_Md_owner_18 (by decide) ?_
          refine lv_iload_n hx hb d_Md_owner_19 rfl (lv_at hl 3 rfl) ?_
          refine lv_imul (x := 4) (y := (nI k)) hx hb d_Md_owner_20 ?_
          refine lv_eqi (y := (nI (4 * k))) (pk_mul 4 k) ?_
          refine lv_iload_n hx hb d_Md_owner_21 rfl (lv_at hl 1 rfl) ?_
          refine lv_iadd (x := (nI (4 * k))) (y := (nI st)) hx hb d_Md_owner_22 ?_
          refine lv_eqi (y := (nI (4 * k + st))) (nI_add (4 * k) st) ?_
          refine hx_iald hx hb hK 0 (hI.2 12 (by decide)) rfl (show vp_in (nI (4 * k + st)) 96 from vp_in_nI (n := 4 * k + st) (by omega) (by decide)) d_Md_owner_23 ?_
          refine lv_eqi (y := (f 12 (4 * k + st))) (show f 12 (nI (4 * k + st)).toNatClampNeg = _ by rw [nI_clamp (by omega)]) ?_
          refine lv_iload_n hx hb d_Md_owner_24 rfl (lv_at hl 2 rfl) ?_
          refine lv_icmp_ne (x := (f 12 (4 * k + st))) (y := q) (tgt := 30) hx hb d_Md_owner_25 (by decide) (fun c25 => ?_) (fun c25 => ?_)
          · skip
            refine lv_iinc (v := (nI (k + 1))) (lv' := [(3, .int (nI (k + 1))), (0, .ref x), (1, .int (nI st)), (2, .int q)]) hx hb d_Md_owner_30 hl (k := 3) rfl (nI_1 k) (by decide) rfl (fun ls hl => ?_)
            refine lv_goto (tgt := 2) hx hb d_Md_owner_33 (by decide) ?_
            exact ih2  (k + 1) (by omega) (by omega) (hf.trans (fst_miss (by omega) (by simp [ownP, c11, c25]))) _ hS ls (lv_sub hl [1, 2, 3, 0] rfl)
          · skip
            refine lv_iload_n hx hb d_Md_owner_28 rfl (lv_at hl 3 rfl) ?_
            exact W.iret (v := (nI k)) hx hb hr (fun t ht hW => ⟨⟨(nI k), H, rfl, ⟨hI, (hf.trans (fst_hit (by omega) (by simp [ownP, c11, c25]))).symm⟩, ht⟩, hS.F ht⟩) hS.2.2 d_Md_owner_29
  exact loop2 ((n - 0) + 1) 0 (Nat.lt_succ_self _) (Nat.zero_le _) rfl _ hS ls (lv_sub hl [1, 2, 3, 0] rfl)
end
section
def allTo (P : Nat → Bool) : Nat → Bool
  | 0 => true
  | n + 1 => allTo P n && P n
def anyTo (P : Nat → Bool) : Nat → Bool
  | 0 => false
  | n + 1 => anyTo P n || P n
theorem all_stop {b : Bool} {P : Nat → Bool} {k n : Nat} (h : (b && allTo P k) = false) (hk : k ≤ n) : (b && allTo P n) = false := by
  induction n with
  | zero => rw [show k = 0 by omega] at h; exact h
  | succ n ih =>
    by_cases e : k = n + 1
    · rw [← e]; exact h
    · have := ih (by omega)
      show (b && (allTo P n && P n)) = false
      rw [← Bool.and_assoc, this]; rfl
def padP (f : Nat → Nat → Int32) (v : Nat) : Nat → Bool := fun j => decide (f 3 (12 * v + j) = f 0 j)
def isPadB (f : Nat → Nat → Int32) (pn v : Nat) : Bool := (!decide (pn ≤ 0) && decide (f 2 v = nI pn)) && allTo (padP f v) pn
def hasP (f : Nat → Nat → Int32) (pn a : Nat) (dy : Int32) : Nat → Bool := fun j => !decide (dy < f 5 (4 * a + j)) && !decide (f 6 (4 * a + j) < dy) && isPadB f pn (4 * a + j)
def begP (f : Nat → Nat → Int32) (a b : Nat) (j : Nat) : Nat → Bool := fun k => decide (f 3 (12 * (4 * a + j)) = f 3 (12 * (4 * b + k)))
def begB (f : Nat → Nat → Int32) (mn : Nat → Nat) (a b : Nat) : Bool := anyTo (fun j => anyTo (begP f a b j) (mn b)) (mn a)
def y_Md_outside : MethodName := ⟨"NameMergesModel", "outside", "(III)Z"⟩
abbrev w_Md_outside : List Cond := Cond.code y_Md_outside prog_7_method_33_code 5 (Option.some Jvm.ClassFile.FieldType.boolean) :: gw
theorem d_Md_outside_0 : decode prog_7_method_33_code 0 = .ok (.aload_n 0, 1) := by decide +kernel
theorem d_Md_outside_1 : decode prog_7_method_33_code 1 = .ok (.aload_n 0, 1) := by decide +kernel
theorem d_Md_outside_2 : decode prog_7_method_33_code 2 = .ok (.iload_n 1, 1) := by decide +kernel
theorem d_Md_outside_3 : decode prog_7_method_33_code 3 = .ok (.invokevirtual 92, 3) := by decide +kernel
theorem d_Md_outside_6 : decode prog_7_method_33_code 6 = .ok (.ifCond .eq 14, 3) := by decide +kernel
theorem d_Md_outside_9 : decode prog_7_method_33_code 9 = .ok (.iload_n 2, 1) := by decide +kernel
theorem d_Md_outside_10 : decode prog_7_method_33_code 10 = .ok (.invokestatic 136, 3) := by decide +kernel
theorem d_Md_outside_13 : decode prog_7_method_33_code 13 = .ok (.ifCond .eq 7, 3) := by decide +kernel
theorem d_Md_outside_16 : decode prog_7_method_33_code 16 = .ok (.iconst 1, 1) := by decide +kernel
theorem d_Md_outside_17 : decode prog_7_method_33_code 17 = .ok (.goto 4, 3) := by decide +kernel
theorem d_Md_outside_20 : decode prog_7_method_33_code 20 = .ok (.iconst 0, 1) := by decide +kernel
theorem d_Md_outside_21 : decode prog_7_method_33_code 21 = .ok (.iload_n 3, 1) := by decide +kernel
theorem d_Md_outside_22 : decode prog_7_method_33_code 22 = .ok (.iconst 1, 1) := by decide +kernel
theorem d_Md_outside_23 : decode prog_7_method_33_code 23 = .ok (.if_icmp .lt 13, 3) := by decide +kernel
theorem d_Md_outside_26 : decode prog_7_method_33_code 26 = .ok (.iload_n 3, 1) := by decide +kernel
theorem d_Md_outside_27 : decode prog_7_method_33_code 27 = .ok (.ldc 139, 2) := by decide +kernel
theorem d_Md_outside_29 : decode prog_7_method_33_code 29 = .ok (.if_icmp .gt 7, 3) := by decide +kernel
theorem d_Md_outside_32 : decode prog_7_method_33_code 32 = .ok (.iconst 1, 1) := by decide +kernel
theorem d_Md_outside_33 : decode prog_7_method_33_code 33 = .ok (.goto 4, 3) := by decide +kernel
theorem d_Md_outside_36 : decode prog_7_method_33_code 36 = .ok (.iconst 0, 1) := by decide +kernel
theorem d_Md_outside_37 : decode prog_7_method_33_code 37 = .ok (.iconst 1, 1) := by decide +kernel
theorem d_Md_outside_38 : decode prog_7_method_33_code 38 = .ok (.invokevirtual 88, 3) := by decide +kernel
theorem d_Md_outside_41 : decode prog_7_method_33_code 41 = .ok (.ifCond .ne 5, 3) := by decide +kernel
theorem d_Md_outside_44 : decode prog_7_method_33_code 44 = .ok (.iconst 0, 1) := by decide +kernel
theorem d_Md_outside_45 : decode prog_7_method_33_code 45 = .ok (.ireturn, 1) := by decide +kernel
theorem d_Md_outside_46 : decode prog_7_method_33_code 46 = .ok (.aload_n 0, 1) := by decide +kernel
theorem d_Md_outside_47 : decode prog_7_method_33_code 47 = .ok (.iload_n 2, 1) := by decide +kernel
theorem d_Md_outside_48 : decode prog_7_method_33_code 48 = .ok (.iload_n 3, 1) := by decide +kernel
theorem d_Md_outside_49 : decode prog_7_method_33_code 49 = .ok (.invokevirtual 140, 3) := by decide +kernel
theorem d_Md_outside_52 : decode prog_7_method_33_code 52 = .ok (.istore 4, 2) := by decide +kernel
theorem d_Md_outside_54 : decode prog_7_method_33_code 54 = .ok (.iload 4, 2) := by decide +kernel
theorem d_Md_outside_56 : decode prog_7_method_33_code 56 = .ok (.iconst (-1), 1) := by decide +kernel
theorem d_Md_outside_57 : decode prog_7_method_33_code 57 = .ok (.if_icmp .eq 11, 3) := by decide +kernel
theorem d_Md_outside_60 : decode prog_7_method_33_code 60 = .ok (.iload 4, 2) := by decide +kernel
theorem d_Md_outside_62 : decode prog_7_method_33_code 62 = .ok (.iload_n 1, 1) := by decide +kernel
theorem d_Md_outside_63 : decode prog_7_method_33_code 63 = .ok (.if_icmp .eq 5, 3) := by decide +kernel
theorem d_Md_outside_66 : decode prog_7_method_33_code 66 = .ok (.iconst 0, 1) := by decide +kernel
theorem d_Md_outside_67 : decode prog_7_method_33_code 67 = .ok (.ireturn, 1) := by decide +kernel
theorem d_Md_outside_68 : decode prog_7_method_33_code 68 = .ok (.aload_n 0, 1) := by decide +kernel
theorem d_Md_outside_69 : decode prog_7_method_33_code 69 = .ok (.getfield 47, 3) := by decide +kernel
theorem d_Md_outside_72 : decode prog_7_method_33_code 72 = .ok (.iconst 4, 1) := by decide +kernel
theorem d_Md_outside_73 : decode prog_7_method_33_code 73 = .ok (.iload_n 1, 1) := by decide +kernel
theorem d_Md_outside_74 : decode prog_7_method_33_code 74 = .ok (.imul, 1) := by decide +kernel
theorem d_Md_outside_75 : decode prog_7_method_33_code 75 = .ok (.iload_n 2, 1) := by decide +kernel
theorem d_Md_outside_76 : decode prog_7_method_33_code 76 = .ok (.iadd, 1) := by decide +kernel
theorem d_Md_outside_77 : decode prog_7_method_33_code 77 = .ok (.iload_n 3, 1) := by decide +kernel
theorem d_Md_outside_78 : decode prog_7_method_33_code 78 = .ok (.iastore, 1) := by decide +kernel
theorem d_Md_outside_79 : decode prog_7_method_33_code 79 = .ok (.iconst 1, 1) := by decide +kernel
theorem d_Md_outside_80 : decode prog_7_method_33_code 80 = .ok (.ireturn, 1) := by decide +kernel
set_option maxHeartbeats 4000000 in
set_option maxRecDepth 100000 in
theorem c_Md_outside (l : Launch) (D : va_G) (cs : Nat → ClassId) (N0 : Nat) (H : Heap) (x : Nat) (g : Nat → Nat) (i : Nat → Int32) (f : Nat → Nat → Int32) (q st nu : Int32) (hsep : md_sep N0 x g) (hI : md_I D cs H x g i f) (n : Nat) (hn : i 2 = nI n) (hn24 : n ≤ 24) : Met l y_Md_outside w_Md_outside ({ frames := 1, cells := 0, slots := 0, locals := 23 }) (hPre D cs N0 [.ref x, .int q, .int st, .int nu] H) (hQi (fun r H' => if goB (isN n q && isSt st) (!decide (nu < 1) && !decide (999999 < nu)) true = true then (if (!decide (fstFrom (ownP f (tn st) nu) 0 n = -1) && !decide (fstFrom (ownP f (tn st) nu) 0 n = q)) = true then (md_I D cs H' x g (upd i 0 (goV (isN n q && isSt st) (!decide (nu < 1) && !decide (999999 < nu)) true)) f ∧ r = 0) else (md_I D cs H' x g (upd i 0 (goV (isN n q && isSt st) (!decide (nu < 1) && !decide (999999 < nu)) true)) (updA f 12 (4 * tn q + tn st) nu) ∧ r = 1)) else (md_I D cs H' x g (upd i 0 (goV (isN n q && isSt st) (!decide (nu < 1) && !decide (999999 < nu)) true)) f ∧ r = 0)) (md_A x g)) 0 0 (md_A x g) := by
  refine Met.ofW (cc := prog_7_method_33_code) (maxL := 5) (ret := (Option.some Jvm.ClassFile.FieldType.boolean)) (by decide) rfl ?_
  intro p e s m args below meth c s₁ B hml hv
  obtain ⟨rfl, rfl, hB⟩ := hv
  have hx := B.exec
  have hb := B.bytes
  have hr := B.returns
  have hts := atoms_spec (ws := w_Md_outside) B.pre
  have htg : ∀ w ∈ gw, w.before _ s = true := fun w h => hts w (List.mem_cons_of_mem _ h)
  have hown : s.vm.findClass "NameMergesModel" = some m.cls := findClass_of_methodNamed B.named
  have hlocks := B.notSynchronized
  have hK := hB.1
  have hS : va_S (md_A x g) s.heap s.heap [] := va_S.rf
  obtain ⟨H, hH⟩ : ∃ z : Heap, z = s.heap := ⟨_, rfl⟩
  rw [← hH] at hI
  have hS : va_S (md_A x g) s.heap H [] := by rw [hH]; exact va_S.rf
  have hl := lv_entry ([.ref x, .int q, .int st, .int nu]) (n := 5) (Nat.le_of_ble_eq_true rfl)
  rw [lg_entry_eq, ← hH]
  generalize (lg_sl ([.ref x, .int q, .int st, .int nu]) ++ List.replicate (5 - (lg_sl ([.ref x, .int q, .int st, .int nu])).length) Slot.unset).toArray = ls at hl ⊢
  have hl : lv_has ls 5 [(0, .ref x), (1, .int q), (2, .int st), (3, .int nu)] := hl
  refine lv_aload_n hx hb d_Md_outside_0 rfl (lv_at hl 0 rfl) ?_
  refine lv_aload_n hx hb d_Md_outside_1 rfl (lv_at hl 0 rfl) ?_
  refine lv_iload_n hx hb d_Md_outside_2 rfl (lv_at hl 1 rfl) ?_
  refine h_calli (va_runV (As := [.int q]) (rest := [.ref x]) ⟨hx, hb, hml, hown, htg⟩ (c_Md_isName l D cs N0 H x g i f q hsep hI n hn) (cwV 1 htg (gw_V (gw_mem (i := 1108) (by decide +kernel) rfl) (gw_mem (i := 1110) (by decide +kernel) rfl) (gw_mem (i := 19) (by decide +kernel) rfl) (gw_mem (i := 38) (by decide +kernel) rfl) (gw_mem (i := 1111) (by decide +kernel) rfl)) rfl rfl rfl (by decide +kernel) ⟨Nat.le_of_ble_eq_true rfl, Nat.le_of_ble_eq_true rfl⟩) ⟨hPre.blind, hx_recv hK (ci := 0) rfl hI.1, hPre.at hB hS hsep.A⟩ rfl rfl hl.1 rfl (lv_room (Nat.le_of_ble_eq_true rfl)) d_Md_outside_3 ⟨Nat.zero_le _, Nat.zero_le _⟩) hS (fun _ h => h) (fun r3 H locs hp hz hk hS => ?_)
  obtain ⟨hI, er3⟩ := hp
  refine lv_eqi (y := (bI (isN n q))) er3 ?_
  refine lv_if_eq (x := (bI (isN n q))) (tgt := 20) hx hb d_Md_outside_6 (by decide) (fun c6 => ?_) (fun c6 => ?_)
  · skip
    replace c6 : (isN n q) = false := bI_0 c6
    refine lv_iconst (v := 0) hx hb d_Md_outside_20 (by decide) ?_
    refine lv_iload_n hx hb d_Md_outside_21 rfl (lv_at hl 3 rfl) ?_
    refine lv_iconst (v := 1) hx hb d_Md_outside_22 (by decide) ?_
    refine lv_icmp_lt (x := nu) (y := 1) (tgt := 36) hx hb d_Md_outside_23 (by decide) (fun c23 => ?_) (fun c23 => ?_)
    · skip
      refine lv_iconst (v := 0) hx hb d_Md_outside_36 (by decide) ?_
      refine lv_iconst (v := 1) hx hb d_Md_outside_37 (by decide) ?_
      refine h_calli (va_runV (As := [.int 0, .int 0, .int 1]) (rest := []) ⟨hx, hb, hml, hown, htg⟩ (c_Md_goes l D cs N0 H x g i f false false true hsep hI) (cwV 3 htg (gw_V (gw_mem (i := 1092) (by decide +kernel) rfl) (gw_mem (i := 1094) (by decide +kernel) rfl) (gw_mem (i := 18) (by decide +kernel) rfl) (gw_mem (i := 38) (by decide +kernel) rfl) (gw_mem (i := 1095) (by decide +kernel) rfl)) rfl rfl rfl (by decide +kernel) ⟨Nat.le_of_ble_eq_true rfl, Nat.le_of_ble_eq_true rfl⟩) ⟨hPre.blind, hx_recv hK (ci := 0) rfl hI.1, hPre.at hB hS hsep.A⟩ rfl rfl hl.1 rfl (lv_room (Nat.le_of_ble_eq_true rfl)) d_Md_outside_38 ⟨Nat.zero_le _, Nat.zero_le _⟩) hS (fun _ h => h) (fun r38 H locs hp hz hk hS => ?_)
      obtain ⟨hI, er38⟩ := hp
      replace hI : md_I D cs H x g (upd i 0 1) f := hI
      refine lv_eqi (y := 0) er38 ?_
      refine lv_if_ne (x := 0) (tgt := 46) hx hb d_Md_outside_41 (by decide) (fun c41 => ?_) (fun c41 => ?_)
      · exact absurd c41 (by decide)
      · skip
        refine lv_iconst (v := 0) hx hb d_Md_outside_44 (by decide) ?_
        exact W.zret (v := 0) hx hb hr (by decide) (fun t ht hW => ⟨⟨0, H, rfl, by dsimp only; have e0 : (isN n q && isSt st) = false := (by first | (simp [c6, c23]; done) | (simp [c6, c23]; omega) | omega | simp_all); have e1 : (!decide (nu < 1) && !decide (999999 < nu)) = false := (by first | (simp [c6, c23]; done) | (simp [c6, c23]; omega) | omega | simp_all); rw [e0, e1]; rw [if_neg (show ¬ goB false false true = true by simp [goB])]; exact ⟨hI, rfl⟩, ht⟩, hS.F ht⟩) hS.2.2 d_Md_outside_45
    · skip
      refine lv_iload_n hx hb d_Md_outside_26 rfl (lv_at hl 3 rfl) ?_
      refine lv_ldc (v := 999999) hx hb hown (htg _ (gw_mem (i := 1207) (by decide +kernel) rfl)) d_Md_outside_27 ?_
      refine lv_icmp_gt (x := nu) (y := 999999) (tgt := 36) hx hb d_Md_outside_29 (by decide) (fun c29 => ?_) (fun c29 => ?_)
      · skip
        refine lv_iconst (v := 0) hx hb d_Md_outside_36 (by decide) ?_
        refine lv_iconst (v := 1) hx hb d_Md_outside_37 (by decide) ?_
        refine h_calli (va_runV (As := [.int 0, .int 0, .int 1]) (rest := []) ⟨hx, hb, hml, hown, htg⟩ (c_Md_goes l D cs N0 H x g i f false false true hsep hI) (cwV 3 htg (gw_V (gw_mem (i := 1092) (by decide +kernel) rfl) (gw_mem (i := 1094) (by decide +kernel) rfl) (gw_mem (i := 18) (by decide +kernel) rfl) (gw_mem (i := 38) (by decide +kernel) rfl) (gw_mem (i := 1095) (by decide +kernel) rfl)) rfl rfl rfl (by decide +kernel) ⟨Nat.le_of_ble_eq_true rfl, Nat.le_of_ble_eq_true rfl⟩) ⟨hPre.blind, hx_recv hK (ci := 0) rfl hI.1, hPre.at hB hS hsep.A⟩ rfl rfl hl.1 rfl (lv_room (Nat.le_of_ble_eq_true rfl)) d_Md_outside_38 ⟨Nat.zero_le _, Nat.zero_le _⟩) hS (fun _ h => h) (fun r38 H locs hp hz hk hS => ?_)
        obtain ⟨hI, er38⟩ := hp
        replace hI : md_I D cs H x g (upd i 0 1) f := hI
        refine lv_eqi (y := 0) er38 ?_
        refine lv_if_ne (x := 0) (tgt := 46) hx hb d_Md_outside_41 (by decide) (fun c41 => ?_) (fun c41 => ?_)
        · exact absurd c41 (by decide)
        · skip
          refine lv_iconst (v := 0) hx hb d_Md_outside_44 (by decide) ?_
          exact W.zret (v := 0) hx hb hr (by decide) (fun t ht hW => ⟨⟨0, H, rfl, by dsimp only; have e0 : (isN n q && isSt st) = false := (by first | (simp [c6, c23, c29]; done) | (simp [c6, c23, c29]; omega) | omega | simp_all); have e1 : (!decide (nu < 1) && !decide (999999 < nu)) = false := (by first | (simp [c6, c23, c29]; done) | (simp [c6, c23, c29]; omega) | omega | simp_all); rw [e0, e1]; rw [if_neg (show ¬ goB false false true = true by simp [goB])]; exact ⟨hI, rfl⟩, ht⟩, hS.F ht⟩) hS.2.2 d_Md_outside_45
      · skip
        refine lv_iconst (v := 1) hx hb d_Md_outside_32 (by decide) ?_
        refine lv_goto (tgt := 37) hx hb d_Md_outside_33 (by decide) ?_
        refine lv_iconst (v := 1) hx hb d_Md_outside_37 (by decide) ?_
        refine h_calli (va_runV (As := [.int 0, .int 1, .int 1]) (rest := []) ⟨hx, hb, hml, hown, htg⟩ (c_Md_goes l D cs N0 H x g i f false true true hsep hI) (cwV 3 htg (gw_V (gw_mem (i := 1092) (by decide +kernel) rfl) (gw_mem (i := 1094) (by decide +kernel) rfl) (gw_mem (i := 18) (by decide +kernel) rfl) (gw_mem (i := 38) (by decide +kernel) rfl) (gw_mem (i := 1095) (by decide +kernel) rfl)) rfl rfl rfl (by decide +kernel) ⟨Nat.le_of_ble_eq_true rfl, Nat.le_of_ble_eq_true rfl⟩) ⟨hPre.blind, hx_recv hK (ci := 0) rfl hI.1, hPre.at hB hS hsep.A⟩ rfl rfl hl.1 rfl (lv_room (Nat.le_of_ble_eq_true rfl)) d_Md_outside_38 ⟨Nat.zero_le _, Nat.zero_le _⟩) hS (fun _ h => h) (fun r38 H locs hp hz hk hS => ?_)
        obtain ⟨hI, er38⟩ := hp
        replace hI : md_I D cs H x g (upd i 0 1) f := hI
        refine lv_eqi (y := 0) er38 ?_
        refine lv_if_ne (x := 0) (tgt := 46) hx hb d_Md_outside_41 (by decide) (fun c41 => ?_) (fun c41 => ?_)
        · exact absurd c41 (by decide)
        · skip
          refine lv_iconst (v := 0) hx hb d_Md_outside_44 (by decide) ?_
          exact W.zret (v := 0) hx hb hr (by decide) (fun t ht hW => ⟨⟨0, H, rfl, by dsimp only; have e0 : (isN n q && isSt st) = false := (by first | (simp [c6, c23, c29]; done) | (simp [c6, c23, c29]; omega) | omega | simp_all); have e1 : (!decide (nu < 1) && !decide (999999 < nu)) = true := (by first | (simp [c6, c23, c29]; done) | (simp [c6, c23, c29]; omega) | omega | simp_all); rw [e0, e1]; rw [if_neg (show ¬ goB false true true = true by simp [goB])]; exact ⟨hI, rfl⟩, ht⟩, hS.F ht⟩) hS.2.2 d_Md_outside_45
  · skip
    replace c6 : (isN n q) = true := bI_1 c6
    refine lv_iload_n hx hb d_Md_outside_9 rfl (lv_at hl 2 rfl) ?_
    refine h_calli (va_runS (As := [.int st]) (rest := [.ref x]) ⟨hx, hb, hml, hown, htg⟩ (c_Md_isSet l D cs N0 H x g i f st hsep hI) (cwS 1 htg (gw_S (gw_mem (i := 1204) (by decide +kernel) rfl) (gw_mem (i := 1205) (by decide +kernel) rfl) (gw_mem (i := 38) (by decide +kernel) rfl) (gw_mem (i := 1206) (by decide +kernel) rfl)) rfl rfl rfl (by decide +kernel) ⟨Nat.le_of_ble_eq_true rfl, Nat.le_of_ble_eq_true rfl⟩) ⟨hPre.blind, hPre.at hB hS hsep.A⟩ rfl rfl hl.1 rfl (lv_room (Nat.le_of_ble_eq_true rfl)) d_Md_outside_10 ⟨Nat.zero_le _, Nat.zero_le _⟩) hS (fun _ h => h) (fun r10 H locs hp hz hk hS => ?_)
    obtain ⟨hI, er10⟩ := hp
    refine lv_eqi (y := (bI (isSt st))) er10 ?_
    refine lv_if_eq (x := (bI (isSt st))) (tgt := 20) hx hb d_Md_outside_13 (by decide) (fun c13 => ?_) (fun c13 => ?_)
    · skip
      replace c13 : (isSt st) = false := bI_0 c13
      refine lv_iconst (v := 0) hx hb d_Md_outside_20 (by decide) ?_
      refine lv_iload_n hx hb d_Md_outside_21 rfl (lv_at hl 3 rfl) ?_
      refine lv_iconst (v := 1) hx hb d_Md_outside_22 (by decide) ?_
      refine lv_icmp_lt (x := nu) (y := 1) (tgt := 36) hx hb d_Md_outside_23 (by decide) (fun c23 => ?_) (fun c23 => ?_)
      · skip
        refine lv_iconst (v := 0) hx hb d_Md_outside_36 (by decide) ?_
        refine lv_iconst (v := 1) hx hb d_Md_outside_37 (by decide) ?_
        refine h_calli (va_runV (As := [.int 0, .int 0, .int 1]) (rest := []) ⟨hx, hb, hml, hown, htg⟩ (c_Md_goes l D cs N0 H x g i f false false true hsep hI) (cwV 3 htg (gw_V (gw_mem (i := 1092) (by decide +kernel) rfl) (gw_mem (i := 1094) (by decide +kernel) rfl) (gw_mem (i := 18) (by decide +kernel) rfl) (gw_mem (i := 38) (by decide +kernel) rfl) (gw_mem (i := 1095) (by decide +kernel) rfl)) rfl rfl rfl (by decide +kernel) ⟨Nat.le_of_ble_eq_true rfl, Nat.le_of_ble_eq_true rfl⟩) ⟨hPre.blind, hx_recv hK (ci := 0) rfl hI.1, hPre.at hB hS hsep.A⟩ rfl rfl hl.1 rfl (lv_room (Nat.le_of_ble_eq_true rfl)) d_Md_outside_38 ⟨Nat.zero_le _, Nat.zero_le _⟩) hS (fun _ h => h) (fun r38 H locs hp hz hk hS => ?_)
        obtain ⟨hI, er38⟩ := hp
        replace hI : md_I D cs H x g (upd i 0 1) f := hI
        refine lv_eqi (y := 0) er38 ?_
        refine lv_if_ne (x := 0) (tgt := 46) hx hb d_Md_outside_41 (by decide) (fun c41 => ?_) (fun c41 => ?_)
        · exact absurd c41 (by decide)
        · skip
          refine lv_iconst (v := 0) hx hb d_Md_outside_44 (by decide) ?_
          exact W.zret (v := 0) hx hb hr (by decide) (fun t ht hW => ⟨⟨0, H, rfl, by dsimp only; have e0 : (isN n q && isSt st) = false := (by first | (simp [c6, c13, c23]; done) | (simp [c6, c13, c23]; omega) | omega | simp_all); have e1 : (!decide (nu < 1) && !decide (999999 < nu)) = false := (by first | (simp [c6, c13, c23]; done) | (simp [c6, c13, c23]; omega) | omega | simp_all); rw [e0, e1]; rw [if_neg (show ¬ goB false false true = true by simp [goB])]; exact ⟨hI, rfl⟩, ht⟩, hS.F ht⟩) hS.2.2 d_Md_outside_45
      · skip
        refine lv_iload_n hx hb d_Md_outside_26 rfl (lv_at hl 3 rfl) ?_
        refine lv_ldc (v := 999999) hx hb hown (htg _ (gw_mem (i := 1207) (by decide +kernel) rfl)) d_Md_outside_27 ?_
        refine lv_icmp_gt (x := nu) (y := 999999) (tgt := 36) hx hb d_Md_outside_29 (by decide) (fun c29 => ?_) (fun c29 => ?_)
        · skip
          refine lv_iconst (v := 0) hx hb d_Md_outside_36 (by decide) ?_
          refine lv_iconst (v := 1) hx hb d_Md_outside_37 (by decide) ?_
          refine h_calli (va_runV (As := [.int 0, .int 0, .int 1]) (rest := []) ⟨hx, hb, hml, hown, htg⟩ (c_Md_goes l D cs N0 H x g i f false false true hsep hI) (cwV 3 htg (gw_V (gw_mem (i := 1092) (by decide +kernel) rfl) (gw_mem (i := 1094) (by decide +kernel) rfl) (gw_mem (i := 18) (by decide +kernel) rfl) (gw_mem (i := 38) (by decide +kernel) rfl) (gw_mem (i := 1095) (by decide +kernel) rfl)) rfl rfl rfl (by decide +kernel) ⟨Nat.le_of_ble_eq_true rfl, Nat.le_of_ble_eq_true rfl⟩) ⟨hPre.blind, hx_recv hK (ci := 0) rfl hI.1, hPre.at hB hS hsep.A⟩ rfl rfl hl.1 rfl (lv_room (Nat.le_of_ble_eq_true rfl)) d_Md_outside_38 ⟨Nat.zero_le _, Nat.zero_le _⟩) hS (fun _ h => h) (fun r38 H locs hp hz hk hS => ?_)
          obtain ⟨hI, er38⟩ := hp
          replace hI : md_I D cs H x g (upd i 0 1) f := hI
          refine lv_eqi (y := 0) er38 ?_
          refine lv_if_ne (x := 0) (tgt := 46) hx hb d_Md_outside_41 (by decide) (fun c41 => ?_) (fun c41 => ?_)
          · exact absurd c41 (by decide)
          · skip
            refine lv_iconst (v := 0) hx hb d_Md_outside_44 (by decide) ?_
            exact W.zret (v := 0) hx hb hr (by decide) (fun t ht hW => ⟨⟨0, H, rfl, by dsimp only; have e0 : (isN n q && isSt st) = false := (by first | (simp [c6, c13, c23, c29]; done) | (simp [c6, c13, c23, c29]; omega) | omega | simp_all); have e1 : (!decide (nu < 1) && !decide (999999 < nu)) = false := (by first | (simp [c6, c13, c23, c29]; done) | (simp [c6, c13, c23, c29]; omega) | omega | simp_all); rw [e0, e1]; rw [if_neg (show ¬ goB false false true = true by simp [goB])]; exact ⟨hI, rfl⟩, ht⟩, hS.F ht⟩) hS.2.2 d_Md_outside_45
        · skip
          refine lv_iconst (v := 1) hx hb d_Md_outside_32 (by decide) ?_
          refine lv_goto (tgt := 37) hx hb d_Md_outside_33 (by decide) ?_
          refine lv_iconst (v := 1) hx hb d_Md_outside_37 (by decide) ?_
          refine h_calli (va_runV (As := [.int 0, .int 1, .int 1]) (rest := []) ⟨hx, hb, hml, hown, htg⟩ (c_Md_goes l D cs N0 H x g i f false true true hsep hI) (cwV 3 htg (gw_V (gw_mem (i := 1092) (by decide +kernel) rfl) (gw_mem (i := 1094) (by decide +kernel) rfl) (gw_mem (i := 18) (by decide +kernel) rfl) (gw_mem (i := 38) (by decide +kernel) rfl) (gw_mem (i := 1095) (by decide +kernel) rfl)) rfl rfl rfl (by decide +kernel) ⟨Nat.le_of_ble_eq_true rfl, Nat.le_of_ble_eq_true rfl⟩) ⟨hPre.blind, hx_recv hK (ci := 0) rfl hI.1, hPre.at hB hS hsep.A⟩ rfl rfl hl.1 rfl (lv_room (Nat.le_of_ble_eq_true rfl)) d_Md_outside_38 ⟨Nat.zero_le _, Nat.zero_le _⟩) hS (fun _ h => h) (fun r38 H locs hp hz hk hS => ?_)
          obtain ⟨hI, er38⟩ := hp
          replace hI : md_I D cs H x g (upd i 0 1) f := hI
          refine lv_eqi (y := 0) er38 ?_
          refine lv_if_ne (x := 0) (tgt := 46) hx hb d_Md_outside_41 (by decide) (fun c41 => ?_) (fun c41 => ?_)
          · exact absurd c41 (by decide)
          · skip
            refine lv_iconst (v := 0) hx hb d_Md_outside_44 (by decide) ?_
            exact W.zret (v := 0) hx hb hr (by decide) (fun t ht hW => ⟨⟨0, H, rfl, by dsimp only; have e0 : (isN n q && isSt st) = false := (by first | (simp [c6, c13, c23, c29]; done) | (simp [c6, c13, c23, c29]; omega) | omega | simp_all); have e1 : (!decide (nu < 1) && !decide (999999 < nu)) = true := (by first | (simp [c6, c13, c23, c29]; done) | (simp [c6, c13, c23, c29]; omega) | omega | simp_all); rw [e0, e1]; rw [if_neg (show ¬ goB false true true = true by simp [goB])]; exact ⟨hI, rfl⟩, ht⟩, hS.F ht⟩) hS.2.2 d_Md_outside_45
    · skip
      replace c13 : (isSt st) = true := bI_1 c13
      refine lv_iconst (v := 1) hx hb d_Md_outside_16 (by decide) ?_
      refine lv_goto (tgt := 21) hx hb d_Md_outside_17 (by decide) ?_
      refine lv_iload_n hx hb d_Md_outside_21 rfl (lv_at hl 3 rfl) ?_
      refine lv_iconst (v := 1) hx hb d_Md_outside_22 (by decide) ?_
      refine lv_icmp_lt (x := nu) (y := 1) (tgt := 36) hx hb d_Md_outside_23 (by decide) (fun c23 => ?_) (fun c23 => ?_)
      · skip
        refine lv_iconst (v := 0) hx hb d_Md_outside_36 (by decide) ?_
        refine lv_iconst (v := 1) hx hb d_Md_outside_37 (by decide) ?_
        refine h_calli (va_runV (As := [.int 1, .int 0, .int 1]) (rest := []) ⟨hx, hb, hml, hown, htg⟩ (c_Md_goes l D cs N0 H x g i f true false true hsep hI) (cwV 3 htg (gw_V (gw_mem (i := 1092) (by decide +kernel) rfl) (gw_mem (i := 1094) (by decide +kernel) rfl) (gw_mem (i := 18) (by decide +kernel) rfl) (gw_mem (i := 38) (by decide +kernel) rfl) (gw_mem (i := 1095) (by decide +kernel) rfl)) rfl rfl rfl (by decide +kernel) ⟨Nat.le_of_ble_eq_true rfl, Nat.le_of_ble_eq_true rfl⟩) ⟨hPre.blind, hx_recv hK (ci := 0) rfl hI.1, hPre.at hB hS hsep.A⟩ rfl rfl hl.1 rfl (lv_room (Nat.le_of_ble_eq_true rfl)) d_Md_outside_38 ⟨Nat.zero_le _, Nat.zero_le _⟩) hS (fun _ h => h) (fun r38 H locs hp hz hk hS => ?_)
        obtain ⟨hI, er38⟩ := hp
        replace hI : md_I D cs H x g (upd i 0 2) f := hI
        refine lv_eqi (y := 0) er38 ?_
        refine lv_if_ne (x := 0) (tgt := 46) hx hb d_Md_outside_41 (by decide) (fun c41 => ?_) (fun c41 => ?_)
        · exact absurd c41 (by decide)
        · skip
          refine lv_iconst (v := 0) hx hb d_Md_outside_44 (by decide) ?_
          exact W.zret (v := 0) hx hb hr (by decide) (fun t ht hW => ⟨⟨0, H, rfl, by dsimp only; have e0 : (isN n q && isSt st) = true := (by first | (simp [c6, c13, c23]; done) | (simp [c6, c13, c23]; omega) | omega | simp_all); have e1 : (!decide (nu < 1) && !decide (999999 < nu)) = false := (by first | (simp [c6, c13, c23]; done) | (simp [c6, c13, c23]; omega) | omega | simp_all); rw [e0, e1]; rw [if_neg (show ¬ goB true false true = true by simp [goB])]; exact ⟨hI, rfl⟩, ht⟩, hS.F ht⟩) hS.2.2 d_Md_outside_45
      · skip
        refine lv_iload_n hx hb d_Md_outside_26 rfl (lv_at hl 3 rfl) ?_
        refine lv_ldc (v := 999999) hx hb hown (htg _ (gw_mem (i := 1207) (by decide +kernel) rfl)) d_Md_outside_27 ?_
        refine lv_icmp_gt (x := nu) (y := 999999) (tgt := 36) hx hb d_Md_outside_29 (by decide) (fun c29 => ?_) (fun c29 => ?_)
        · skip
          refine lv_iconst (v := 0) hx hb d_Md_outside_36 (by decide) ?_
          refine lv_iconst (v := 1) hx hb d_Md_outside_37 (by decide) ?_
          refine h_calli (va_runV (As := [.int 1, .int 0, .int 1]) (rest := []) ⟨hx, hb, hml, hown, htg⟩ (c_Md_goes l D cs N0 H x g i f true false true hsep hI) (cwV 3 htg (gw_V (gw_mem (i := 1092) (by decide +kernel) rfl) (gw_mem (i := 1094) (by decide +kernel) rfl) (gw_mem (i := 18) (by decide +kernel) rfl) (gw_mem (i := 38) (by decide +kernel) rfl) (gw_mem (i := 1095) (by decide +kernel) rfl)) rfl rfl rfl (by decide +kernel) ⟨Nat.le_of_ble_eq_true rfl, Nat.le_of_ble_eq_true rfl⟩) ⟨hPre.blind, hx_recv hK (ci := 0) rfl hI.1, hPre.at hB hS hsep.A⟩ rfl rfl hl.1 rfl (lv_room (Nat.le_of_ble_eq_true rfl)) d_Md_outside_38 ⟨Nat.zero_le _, Nat.zero_le _⟩) hS (fun _ h => h) (fun r38 H locs hp hz hk hS => ?_)
          obtain ⟨hI, er38⟩ := hp
          replace hI : md_I D cs H x g (upd i 0 2) f := hI
          refine lv_eqi (y := 0) er38 ?_
          refine lv_if_ne (x := 0) (tgt := 46) hx hb d_Md_outside_41 (by decide) (fun c41 => ?_) (fun c41 => ?_)
          · exact absurd c41 (by decide)
          · skip
            refine lv_iconst (v := 0) hx hb d_Md_outside_44 (by decide) ?_
            exact W.zret (v := 0) hx hb hr (by decide) (fun t ht hW => ⟨⟨0, H, rfl, by dsimp only; have e0 : (isN n q && isSt st) = true := (by first | (simp [c6, c13, c23, c29]; done) | (simp [c6, c13, c23, c29]; omega) | omega | simp_all); have e1 : (!decide (nu < 1) && !decide (999999 < nu)) = false := (by first | (simp [c6, c13, c23, c29]; done) | (simp [c6, c13, c23, c29]; omega) | omega | simp_all); rw [e0, e1]; rw [if_neg (show ¬ goB true false true = true by simp [goB])]; exact ⟨hI, rfl⟩, ht⟩, hS.F ht⟩) hS.2.2 d_Md_outside_45
        · skip
          refine lv_iconst (v := 1) hx hb d_Md_outside_32 (by decide) ?_
          refine lv_goto (tgt := 37) hx hb d_Md_outside_33 (by decide) ?_
          refine lv_iconst (v := 1) hx hb d_Md_outside_37 (by decide) ?_
          refine h_calli (va_runV (As := [.int 1, .int 1, .int 1]) (rest := []) ⟨hx, hb, hml, hown, htg⟩ (c_Md_goes l D cs N0 H x g i f true true true hsep hI) (cwV 3 htg (gw_V (gw_mem (i := 1092) (by decide +kernel) rfl) (gw_mem (i := 1094) (by decide +kernel) rfl) (gw_mem (i := 18) (by decide +kernel) rfl) (gw_mem (i := 38) (by decide +kernel) rfl) (gw_mem (i := 1095) (by decide +kernel) rfl)) rfl rfl rfl (by decide +kernel) ⟨Nat.le_of_ble_eq_true rfl, Nat.le_of_ble_eq_true rfl⟩) ⟨hPre.blind, hx_recv hK (ci := 0) rfl hI.1, hPre.at hB hS hsep.A⟩ rfl rfl hl.1 rfl (lv_room (Nat.le_of_ble_eq_true rfl)) d_Md_outside_38 ⟨Nat.zero_le _, Nat.zero_le _⟩) hS (fun _ h => h) (fun r38 H locs hp hz hk hS => ?_)
          obtain ⟨hI, er38⟩ := hp
          replace hI : md_I D cs H x g (upd i 0 0) f := hI
          refine lv_eqi (y := 1) er38 ?_
          refine lv_if_ne (x := 1) (tgt := 46) hx hb d_Md_outside_41 (by decide) (fun c41 => ?_) (fun c41 => ?_)
          · skip
            obtain ⟨ha, ea⟩ := isN_n c6 (by omega)
            obtain ⟨hst, es⟩ := isSt_n c13
            refine lv_aload_n hx hb d_Md_outside_46 rfl (lv_at hl 0 rfl) ?_
            refine lv_iload_n hx hb d_Md_outside_47 rfl (lv_at hl 2 rfl) ?_
            refine lv_eqi (y := (nI (tn st))) es ?_
            refine lv_iload_n hx hb d_Md_outside_48 rfl (lv_at hl 3 rfl) ?_
            refine h_calli (va_runV (As := [.int (nI (tn st)), .int nu]) (rest := []) ⟨hx, hb, hml, hown, htg⟩ (c_Md_owner l D cs N0 H x g ((upd i 0 0)) f (tn st) nu hsep hI n hn hn24 hst) (cwV 2 htg (gw_V (gw_mem (i := 1208) (by decide +kernel) rfl) (gw_mem (i := 1210) (by decide +kernel) rfl) (gw_mem (i := 28) (by decide +kernel) rfl) (gw_mem (i := 38) (by decide +kernel) rfl) (gw_mem (i := 1211) (by decide +kernel) rfl)) rfl rfl rfl (by decide +kernel) ⟨Nat.le_of_ble_eq_true rfl, Nat.le_of_ble_eq_true rfl⟩) ⟨hPre.blind, hx_recv hK (ci := 0) rfl hI.1, hPre.at hB hS hsep.A⟩ rfl rfl hl.1 rfl (lv_room (Nat.le_of_ble_eq_true rfl)) d_Md_outside_49 ⟨Nat.zero_le _, Nat.zero_le _⟩) hS (fun _ h => h) (fun r49 H locs hp hz hk hS => ?_)
            obtain ⟨hI, er49⟩ := hp
            refine lv_eqi (y := fstFrom (ownP f (tn st) nu) 0 n) er49 ?_
            refine lv_istore (lv' := [(4, .int (fstFrom (ownP f (tn st) nu) 0 n)), (0, .ref x), (1, .int q), (2, .int st), (3, .int nu)]) hx hb d_Md_outside_52 hl (by decide) rfl (fun ls hl => ?_)
            refine lv_iload hx hb d_Md_outside_54 (lv_at hl 0 rfl) ?_
            refine lv_iconst (v := (-1)) hx hb d_Md_outside_56 (by decide) ?_
            refine lv_icmp_eq (x := (fstFrom (ownP f (tn st) nu) 0 n)) (y := (-1)) (tgt := 68) hx hb d_Md_outside_57 (by decide) (fun c57 => ?_) (fun c57 => ?_)
            · skip
              refine lv_aload_n hx hb d_Md_outside_68 rfl (lv_at hl 1 rfl) ?_
              refine hx_get (v := .ref (g 12)) hx hb htg iMd hown hK hI.1 rfl 15 (by decide) (htg _ (gw_mem (i := 1013) (by decide +kernel) rfl)) (fun _ h9 => h9) rfl d_Md_outside_69 ?_
              refine lv_iconst (v := 4) hx hb d_Md_outside_72 (by decide) ?_
              refine lv_iload_n hx hb d_Md_outside_73 rfl (lv_at hl 2 rfl) ?_
              refine lv_eqi (y := (nI (tn q))) ea ?_
              refine lv_imul (x := 4) (y := (nI (tn q))) hx hb d_Md_outside_74 ?_
              refine lv_eqi (y := (nI (4 * (tn q)))) (pk_mul 4 (tn q)) ?_
              refine lv_iload_n hx hb d_Md_outside_75 rfl (lv_at hl 3 rfl) ?_
              refine lv_eqi (y := (nI (tn st))) es ?_
              refine lv_iadd (x := (nI (4 * (tn q)))) (y := (nI (tn st))) hx hb d_Md_outside_76 ?_
              refine lv_eqi (y := (nI (4 * (tn q) + tn st))) (nI_add (4 * (tn q)) (tn st)) ?_
              refine lv_iload_n hx hb d_Md_outside_77 rfl (lv_at hl 4 rfl) ?_
              refine hx_iast hx hb hK hS (Or.inr ⟨12, by decide, rfl⟩) 0 (hI.2 12 (by decide)) rfl (show vp_in (nI (4 * (tn q) + tn st)) 96 from vp_in_nI (n := 4 * (tn q) + tn st) (by omega) (by decide)) d_Md_outside_78 (fun H locs hat hz ho hS => ?_)
              replace hI : md_I D cs H x g (upd i 0 0) (updA f 12 (4 * (tn q) + tn st) (nu)) := md_I.puta hI hsep (by decide) (by rw [show ((nI (4 * (tn q) + tn st)) : Int32).toNatClampNeg = 4 * (tn q) + tn st from nI_clamp (n := 4 * (tn q) + tn st) (by omega)] at hat; exact hat) ho
              refine lv_iconst (v := 1) hx hb d_Md_outside_79 (by decide) ?_
              exact W.zret (v := 1) hx hb hr (by decide) (fun t ht hW => ⟨⟨1, H, rfl, by dsimp only; have e0 : (isN n q && isSt st) = true := (by first | (simp [c6, c13, c23, c29, c57]; done) | (simp [c6, c13, c23, c29, c57]; omega) | omega | simp_all); have e1 : (!decide (nu < 1) && !decide (999999 < nu)) = true := (by first | (simp [c6, c13, c23, c29, c57]; done) | (simp [c6, c13, c23, c29, c57]; omega) | omega | simp_all); rw [e0, e1]; rw [if_pos (show goB true true true = true from rfl)]; exact (by first | (rw [if_pos (by simp [c57, c63])]; exact ⟨hI, rfl⟩) | (rw [if_neg (by simp [c57])]; exact ⟨hI, rfl⟩)), ht⟩, hS.F ht⟩) hS.2.2 d_Md_outside_80
            · skip
              refine lv_iload hx hb d_Md_outside_60 (lv_at hl 0 rfl) ?_
              refine lv_iload_n hx hb d_Md_outside_62 rfl (lv_at hl 2 rfl) ?_
              refine lv_icmp_eq (x := (fstFrom (ownP f (tn st) nu) 0 n)) (y := q) (tgt := 68) hx hb d_Md_outside_63 (by decide) (fun c63 => ?_) (fun c63 => ?_)
              · skip
                refine lv_aload_n hx hb d_Md_outside_68 rfl (lv_at hl 1 rfl) ?_
                refine hx_get (v := .ref (g 12)) hx hb htg iMd hown hK hI.1 rfl 15 (by decide) (htg _ (gw_mem (i := 1013) (by decide +kernel) rfl)) (fun _ h9 => h9) rfl d_Md_outside_69 ?_
                refine lv_iconst (v := 4) hx hb d_Md_outside_72 (by decide) ?_
                refine lv_iload_n hx hb d_Md_outside_73 rfl (lv_at hl 2 rfl) ?_
                refine lv_eqi (y := (nI (tn q))) ea ?_
                refine lv_imul (x := 4) (y := (nI (tn q))) hx hb d_Md_outside_74 ?_
                refine lv_eqi (y := (nI (4 * (tn q)))) (pk_mul 4 (tn q)) ?_
                refine lv_iload_n hx hb d_Md_outside_75 rfl (lv_at hl 3 rfl) ?_
                refine lv_eqi (y := (nI (tn st))) es ?_
                refine lv_iadd (x := (nI (4 * (tn q)))) (y := (nI (tn st))) hx hb d_Md_outside_76 ?_
                refine lv_eqi (y := (nI (4 * (tn q) + tn st))) (nI_add (4 * (tn q)) (tn st)) ?_
                refine lv_iload_n hx hb d_Md_outside_77 rfl (lv_at hl 4 rfl) ?_
                refine hx_iast hx hb hK hS (Or.inr ⟨12, by decide, rfl⟩) 0 (hI.2 12 (by decide)) rfl (show vp_in (nI (4 * (tn q) + tn st)) 96 from vp_in_nI (n := 4 * (tn q) + tn st) (by omega) (by decide)) d_Md_outside_78 (fun H locs hat hz ho hS => ?_)
                replace hI : md_I D cs H x g (upd i 0 0) (updA f 12 (4 * (tn q) + tn st) (nu)) := md_I.puta hI hsep (by decide) (by rw [show ((nI (4 * (tn q) + tn st)) : Int32).toNatClampNeg = 4 * (tn q) + tn st from nI_clamp (n := 4 * (tn q) + tn st) (by omega)] at hat; exact hat) ho
                refine lv_iconst (v := 1) hx hb d_Md_outside_79 (by decide) ?_
                exact W.zret (v := 1) hx hb hr (by decide) (fun t ht hW => ⟨⟨1, H, rfl, by dsimp only; have e0 : (isN n q && isSt st) = true := (by first | (simp [c6, c13, c23, c29, c57, c63]; done) | (simp [c6, c13, c23, c29, c57, c63]; omega) | omega | simp_all); have e1 : (!decide (nu < 1) && !decide (999999 < nu)) = true := (by first | (simp [c6, c13, c23, c29, c57, c63]; done) | (simp [c6, c13, c23, c29, c57, c63]; omega) | omega | simp_all); rw [e0, e1]; rw [if_pos (show goB true true true = true from rfl)]; exact (by first | (rw [if_pos (by simp [c57, c63])]; exact ⟨hI, rfl⟩) | (rw [if_neg (by simp [c57, c63])]; exact ⟨hI, rfl⟩)), ht⟩, hS.F ht⟩) hS.2.2 d_Md_outside_80
              · skip
                refine lv_iconst (v := 0) hx hb d_Md_outside_66 (by decide) ?_
                exact W.zret (v := 0) hx hb hr (by decide) (fun t ht hW => ⟨⟨0, H, rfl, by dsimp only; have e0 : (isN n q && isSt st) = true := (by first | (simp [c6, c13, c23, c29, c57, c63]; done) | (simp [c6, c13, c23, c29, c57, c63]; omega) | omega | simp_all); have e1 : (!decide (nu < 1) && !decide (999999 < nu)) = true := (by first | (simp [c6, c13, c23, c29, c57, c63]; done) | (simp [c6, c13, c23, c29, c57, c63]; omega) | omega | simp_all); rw [e0, e1]; rw [if_pos (show goB true true true = true from rfl)]; exact (by first | (rw [if_pos (by simp [c57, c63])]; exact ⟨hI, rfl⟩) | (rw [if_neg (by simp [c57, c63])]; exact ⟨hI, rfl⟩)), ht⟩, hS.F ht⟩) hS.2.2 d_Md_outside_67
          · exact absurd c41 (by decide)
def y_Md_whose : MethodName := ⟨"NameMergesModel", "whose", "(II)I"⟩
abbrev w_Md_whose : List Cond := Cond.code y_Md_whose prog_7_method_34_code 3 (Option.some Jvm.ClassFile.FieldType.int) :: gw
theorem d_Md_whose_0 : decode prog_7_method_34_code 0 = .ok (.aload_n 0, 1) := by decide +kernel
theorem d_Md_whose_1 : decode prog_7_method_34_code 1 = .ok (.iload_n 1, 1) := by decide +kernel
theorem d_Md_whose_2 : decode prog_7_method_34_code 2 = .ok (.invokestatic 136, 3) := by decide +kernel
theorem d_Md_whose_5 : decode prog_7_method_34_code 5 = .ok (.iconst 1, 1) := by decide +kernel
theorem d_Md_whose_6 : decode prog_7_method_34_code 6 = .ok (.iconst 1, 1) := by decide +kernel
theorem d_Md_whose_7 : decode prog_7_method_34_code 7 = .ok (.invokevirtual 88, 3) := by decide +kernel
theorem d_Md_whose_10 : decode prog_7_method_34_code 10 = .ok (.ifCond .eq 12, 3) := by decide +kernel
theorem d_Md_whose_13 : decode prog_7_method_34_code 13 = .ok (.aload_n 0, 1) := by decide +kernel
theorem d_Md_whose_14 : decode prog_7_method_34_code 14 = .ok (.iload_n 1, 1) := by decide +kernel
theorem d_Md_whose_15 : decode prog_7_method_34_code 15 = .ok (.iload_n 2, 1) := by decide +kernel
theorem d_Md_whose_16 : decode prog_7_method_34_code 16 = .ok (.invokevirtual 140, 3) := by decide +kernel
theorem d_Md_whose_19 : decode prog_7_method_34_code 19 = .ok (.goto 4, 3) := by decide +kernel
theorem d_Md_whose_22 : decode prog_7_method_34_code 22 = .ok (.iconst 0, 1) := by decide +kernel
theorem d_Md_whose_23 : decode prog_7_method_34_code 23 = .ok (.ireturn, 1) := by decide +kernel
set_option maxHeartbeats 4000000 in
set_option maxRecDepth 100000 in
theorem c_Md_whose (l : Launch) (D : va_G) (cs : Nat → ClassId) (N0 : Nat) (H : Heap) (x : Nat) (g : Nat → Nat) (i : Nat → Int32) (f : Nat → Nat → Int32) (st nu : Int32) (hsep : md_sep N0 x g) (hI : md_I D cs H x g i f) (n : Nat) (hn : i 2 = nI n) (hn24 : n ≤ 24) : Met l y_Md_whose w_Md_whose ({ frames := 1, cells := 0, slots := 0, locals := 23 }) (hPre D cs N0 [.ref x, .int st, .int nu] H) (hQi (fun r H' => if goB (isSt st) true true = true then (md_I D cs H' x g (upd i 0 (goV (isSt st) true true)) f ∧ r = fstFrom (ownP f (tn st) nu) 0 n) else (md_I D cs H' x g (upd i 0 (goV (isSt st) true true)) f ∧ r = 0)) (md_A x g)) 0 0 (md_A x g) := by
  refine Met.ofW (cc := prog_7_method_34_code) (maxL := 3) (ret := (Option.some Jvm.ClassFile.FieldType.int)) (by decide) rfl ?_
  intro p e s m args below meth c s₁ B hml hv
  obtain ⟨rfl, rfl, hB⟩ := hv
  have hx := B.exec
  have hb := B.bytes
  have hr := B.returns
  have hts := atoms_spec (ws := w_Md_whose) B.pre
  have htg : ∀ w ∈ gw, w.before _ s = true := fun w h => hts w (List.mem_cons_of_mem _ h)
  have hown : s.vm.findClass "NameMergesModel" = some m.cls := findClass_of_methodNamed B.named
  have hlocks := B.notSynchronized
  have hK := hB.1
  have hS : va_S (md_A x g) s.heap s.heap [] := va_S.rf
  obtain ⟨H, hH⟩ : ∃ z : Heap, z = s.heap := ⟨_, rfl⟩
  rw [← hH] at hI
  have hS : va_S (md_A x g) s.heap H [] := by rw [hH]; exact va_S.rf
  have hl := lv_entry ([.ref x, .int st, .int nu]) (n := 3) (Nat.le_of_ble_eq_true rfl)
  rw [lg_entry_eq, ← hH]
  generalize (lg_sl ([.ref x, .int st, .int nu]) ++ List.replicate (3 - (lg_sl ([.ref x, .int st, .int nu])).length) Slot.unset).toArray = ls at hl ⊢
  have hl : lv_has ls 3 [(0, .ref x), (1, .int st), (2, .int nu)] := hl
  refine lv_aload_n hx hb d_Md_whose_0 rfl (lv_at hl 0 rfl) ?_
  refine lv_iload_n hx hb d_Md_whose_1 rfl (lv_at hl 1 rfl) ?_
  refine h_calli (va_runS (As := [.int st]) (rest := [.ref x]) ⟨hx, hb, hml, hown, htg⟩ (c_Md_isSet l D cs N0 H x g i f st hsep hI) (cwS 1 htg (gw_S (gw_mem (i := 1204) (by decide +kernel) rfl) (gw_mem (i := 1205) (by decide +kernel) rfl) (gw_mem (i := 38) (by decide +kernel) rfl) (gw_mem (i := 1206) (by decide +kernel) rfl)) rfl rfl rfl (by decide +kernel) ⟨Nat.le_of_ble_eq_true rfl, Nat.le_of_ble_eq_true rfl⟩) ⟨hPre.blind, hPre.at hB hS hsep.A⟩ rfl rfl hl.1 rfl (lv_room (Nat.le_of_ble_eq_true rfl)) d_Md_whose_2 ⟨Nat.zero_le _, Nat.zero_le _⟩) hS (fun _ h => h) (fun r2 H locs hp hz hk hS => ?_)
  obtain ⟨hI, er2⟩ := hp
  refine lv_eqi (y := (bI (isSt st))) er2 ?_
  refine lv_iconst (v := 1) hx hb d_Md_whose_5 (by decide) ?_
  refine lv_iconst (v := 1) hx hb d_Md_whose_6 (by decide) ?_
  refine h_calli (va_runV (As := [.int (bI (isSt st)), .int 1, .int 1]) (rest := []) ⟨hx, hb, hml, hown, htg⟩ (c_Md_goes l D cs N0 H x g i f (isSt st) true true hsep hI) (cwV 3 htg (gw_V (gw_mem (i := 1092) (by decide +kernel) rfl) (gw_mem (i := 1094) (by decide +kernel) rfl) (gw_mem (i := 18) (by decide +kernel) rfl) (gw_mem (i := 38) (by decide +kernel) rfl) (gw_mem (i := 1095) (by decide +kernel) rfl)) rfl rfl rfl (by decide +kernel) ⟨Nat.le_of_ble_eq_true rfl, Nat.le_of_ble_eq_true rfl⟩) ⟨hPre.blind, hx_recv hK (ci := 0) rfl hI.1, hPre.at hB hS hsep.A⟩ rfl rfl hl.1 rfl (lv_room (Nat.le_of_ble_eq_true rfl)) d_Md_whose_7 ⟨Nat.zero_le _, Nat.zero_le _⟩) hS (fun _ h => h) (fun r7 H locs hp hz hk hS => ?_)
  obtain ⟨hI, er7⟩ := hp
  refine lv_eqi (y := (bI (goB (isSt st) true true))) er7 ?_
  refine lv_if_eq (x := (bI (goB (isSt st) true true))) (tgt := 22) hx hb d_Md_whose_10 (by decide) (fun c10 => ?_) (fun c10 => ?_)
  · skip
    replace c10 : (goB (isSt st) true true) = false := bI_0 c10
    refine lv_iconst (v := 0) hx hb d_Md_whose_22 (by decide) ?_
    exact W.iret (v := 0) hx hb hr (fun t ht hW => ⟨⟨0, H, rfl, by dsimp only; rw [if_neg (show ¬ goB (isSt st) true true = true by rw [c10]; decide)]; exact ⟨hI, rfl⟩, ht⟩, hS.F ht⟩) hS.2.2 d_Md_whose_23
  · skip
    replace c10 : (goB (isSt st) true true) = true := bI_1 c10
    have hq : isSt st = true := by simpa [goB] using c10
    obtain ⟨hst, es⟩ := isSt_n hq
    refine lv_aload_n hx hb d_Md_whose_13 rfl (lv_at hl 0 rfl) ?_
    refine lv_iload_n hx hb d_Md_whose_14 rfl (lv_at hl 1 rfl) ?_
    refine lv_eqi (y := (nI (tn st))) es ?_
    refine lv_iload_n hx hb d_Md_whose_15 rfl (lv_at hl 2 rfl) ?_
    refine h_calli (va_runV (As := [.int (nI (tn st)), .int nu]) (rest := []) ⟨hx, hb, hml, hown, htg⟩ (c_Md_owner l D cs N0 H x g ((upd i 0 (goV (isSt st) true true))) f (tn st) nu hsep hI n hn hn24 hst) (cwV 2 htg (gw_V (gw_mem (i := 1208) (by decide +kernel) rfl) (gw_mem (i := 1210) (by decide +kernel) rfl) (gw_mem (i := 28) (by decide +kernel) rfl) (gw_mem (i := 38) (by decide +kernel) rfl) (gw_mem (i := 1211) (by decide +kernel) rfl)) rfl rfl rfl (by decide +kernel) ⟨Nat.le_of_ble_eq_true rfl, Nat.le_of_ble_eq_true rfl⟩) ⟨hPre.blind, hx_recv hK (ci := 0) rfl hI.1, hPre.at hB hS hsep.A⟩ rfl rfl hl.1 rfl (lv_room (Nat.le_of_ble_eq_true rfl)) d_Md_whose_16 ⟨Nat.zero_le _, Nat.zero_le _⟩) hS (fun _ h => h) (fun r16 H locs hp hz hk hS => ?_)
    obtain ⟨hI, er16⟩ := hp
    refine lv_eqi (y := fstFrom (ownP f (tn st) nu) 0 n) er16 ?_
    refine lv_goto (tgt := 23) hx hb d_Md_whose_19 (by decide) ?_
    exact W.iret (v := (fstFrom (ownP f (tn st) nu) 0 n)) hx hb hr (fun t ht hW => ⟨⟨(fstFrom (ownP f (tn st) nu) 0 n), H, rfl, by dsimp only; rw [if_pos c10]; exact ⟨hI, rfl⟩, ht⟩, hS.F ht⟩) hS.2.2 d_Md_whose_23
def y_Md_isPad : MethodName := ⟨"NameMergesModel", "isPad", "(I)Z"⟩
abbrev w_Md_isPad : List Cond := Cond.code y_Md_isPad prog_7_method_27_code 4 (Option.some Jvm.ClassFile.FieldType.boolean) :: gw
theorem d_Md_isPad_0 : decode prog_7_method_27_code 0 = .ok (.aload_n 0, 1) := by decide +kernel
theorem d_Md_isPad_1 : decode prog_7_method_27_code 1 = .ok (.getfield 85, 3) := by decide +kernel
theorem d_Md_isPad_4 : decode prog_7_method_27_code 4 = .ok (.ifCond .le 20, 3) := by decide +kernel
theorem d_Md_isPad_7 : decode prog_7_method_27_code 7 = .ok (.aload_n 0, 1) := by decide +kernel
theorem d_Md_isPad_8 : decode prog_7_method_27_code 8 = .ok (.getfield 16, 3) := by decide +kernel
theorem d_Md_isPad_11 : decode prog_7_method_27_code 11 = .ok (.iload_n 1, 1) := by decide +kernel
theorem d_Md_isPad_12 : decode prog_7_method_27_code 12 = .ok (.iaload, 1) := by decide +kernel
theorem d_Md_isPad_13 : decode prog_7_method_27_code 13 = .ok (.aload_n 0, 1) := by decide +kernel
theorem d_Md_isPad_14 : decode prog_7_method_27_code 14 = .ok (.getfield 85, 3) := by decide +kernel
theorem d_Md_isPad_17 : decode prog_7_method_27_code 17 = .ok (.if_icmp .ne 7, 3) := by decide +kernel
theorem d_Md_isPad_20 : decode prog_7_method_27_code 20 = .ok (.iconst 1, 1) := by decide +kernel
theorem d_Md_isPad_21 : decode prog_7_method_27_code 21 = .ok (.goto 4, 3) := by decide +kernel
theorem d_Md_isPad_24 : decode prog_7_method_27_code 24 = .ok (.iconst 0, 1) := by decide +kernel
theorem d_Md_isPad_25 : decode prog_7_method_27_code 25 = .ok (.istore_n 2, 1) := by decide +kernel
theorem d_Md_isPad_26 : decode prog_7_method_27_code 26 = .ok (.iconst 0, 1) := by decide +kernel
theorem d_Md_isPad_27 : decode prog_7_method_27_code 27 = .ok (.istore_n 3, 1) := by decide +kernel
theorem d_Md_isPad_28 : decode prog_7_method_27_code 28 = .ok (.iload_n 3, 1) := by decide +kernel
theorem d_Md_isPad_29 : decode prog_7_method_27_code 29 = .ok (.aload_n 0, 1) := by decide +kernel
theorem d_Md_isPad_30 : decode prog_7_method_27_code 30 = .ok (.getfield 85, 3) := by decide +kernel
theorem d_Md_isPad_33 : decode prog_7_method_27_code 33 = .ok (.if_icmp .ge 39, 3) := by decide +kernel
theorem d_Md_isPad_36 : decode prog_7_method_27_code 36 = .ok (.iload_n 2, 1) := by decide +kernel
theorem d_Md_isPad_37 : decode prog_7_method_27_code 37 = .ok (.ifCond .eq 35, 3) := by decide +kernel
theorem d_Md_isPad_40 : decode prog_7_method_27_code 40 = .ok (.aload_n 0, 1) := by decide +kernel
theorem d_Md_isPad_41 : decode prog_7_method_27_code 41 = .ok (.getfield 19, 3) := by decide +kernel
theorem d_Md_isPad_44 : decode prog_7_method_27_code 44 = .ok (.bipush 12, 2) := by decide +kernel
theorem d_Md_isPad_46 : decode prog_7_method_27_code 46 = .ok (.iload_n 1, 1) := by decide +kernel
theorem d_Md_isPad_47 : decode prog_7_method_27_code 47 = .ok (.imul, 1) := by decide +kernel
theorem d_Md_isPad_48 : decode prog_7_method_27_code 48 = .ok (.iload_n 3, 1) := by decide +kernel
theorem d_Md_isPad_49 : decode prog_7_method_27_code 49 = .ok (.iadd, 1) := by decide +kernel
theorem d_Md_isPad_50 : decode prog_7_method_27_code 50 = .ok (.iaload, 1) := by decide +kernel
theorem d_Md_isPad_51 : decode prog_7_method_27_code 51 = .ok (.aload_n 0, 1) := by decide +kernel
theorem d_Md_isPad_52 : decode prog_7_method_27_code 52 = .ok (.getfield 7, 3) := by decide +kernel
theorem d_Md_isPad_55 : decode prog_7_method_27_code 55 = .ok (.iload_n 3, 1) := by decide +kernel
theorem d_Md_isPad_56 : decode prog_7_method_27_code 56 = .ok (.iaload, 1) := by decide +kernel
theorem d_Md_isPad_57 : decode prog_7_method_27_code 57 = .ok (.if_icmp .ne 7, 3) := by decide +kernel
theorem d_Md_isPad_60 : decode prog_7_method_27_code 60 = .ok (.iconst 1, 1) := by decide +kernel
theorem d_Md_isPad_61 : decode prog_7_method_27_code 61 = .ok (.goto 4, 3) := by decide +kernel
theorem d_Md_isPad_64 : decode prog_7_method_27_code 64 = .ok (.iconst 0, 1) := by decide +kernel
theorem d_Md_isPad_65 : decode prog_7_method_27_code 65 = .ok (.istore_n 2, 1) := by decide +kernel
theorem d_Md_isPad_66 : decode prog_7_method_27_code 66 = .ok (.iinc 3 1, 3) := by decide +kernel
theorem d_Md_isPad_69 : decode prog_7_method_27_code 69 = .ok (.goto (-41), 3) := by decide +kernel
theorem d_Md_isPad_72 : decode prog_7_method_27_code 72 = .ok (.iload_n 2, 1) := by decide +kernel
theorem d_Md_isPad_73 : decode prog_7_method_27_code 73 = .ok (.ireturn, 1) := by decide +kernel
set_option maxHeartbeats 4000000 in
set_option maxRecDepth 100000 in
theorem c_Md_isPad (l : Launch) (D : va_G) (cs : Nat → ClassId) (N0 : Nat) (H : Heap) (x : Nat) (g : Nat → Nat) (i : Nat → Int32) (f : Nat → Nat → Int32) (v : Nat) (hsep : md_sep N0 x g) (hI : md_I D cs H x g i f) (pn : Nat) (hpn : i 1 = nI pn) (hp12 : pn ≤ 12) (hv : v < 96) : Met l y_Md_isPad w_Md_isPad ({ frames := 0, cells := 0, slots := 0, locals := 0 }) (hPre D cs N0 [.ref x, .int (nI v)] H) (hQi (fun r H' => md_I D cs H' x g i f ∧ r = bI (isPadB f pn v)) (md_A x g)) 0 0 (md_A x g) := by
  refine Met.ofW (cc := prog_7_method_27_code) (maxL := 4) (ret := (Option.some Jvm.ClassFile.FieldType.boolean)) (by decide) rfl ?_
  intro p e s m args below meth c s₁ B hml hv
  obtain ⟨rfl, rfl, hB⟩ := hv
  have hx := B.exec
  have hb := B.bytes
  have hr := B.returns
  have hts := atoms_spec (ws := w_Md_isPad) B.pre
  have htg : ∀ w ∈ gw, w.before _ s = true := fun w h => hts w (List.mem_cons_of_mem _ h)
  have hown : s.vm.findClass "NameMergesModel" = some m.cls := findClass_of_methodNamed B.named
  have hlocks := B.notSynchronized
  have hK := hB.1
  have hS : va_S (md_A x g) s.heap s.heap [] := va_S.rf
  obtain ⟨H, hH⟩ : ∃ z : Heap, z = s.heap := ⟨_, rfl⟩
  rw [← hH] at hI
  have hS : va_S (md_A x g) s.heap H [] := by rw [hH]; exact va_S.rf
  have hl := lv_entry ([.ref x, .int (nI v)]) (n := 4) (Nat.le_of_ble_eq_true rfl)
  rw [lg_entry_eq, ← hH]
  generalize (lg_sl ([.ref x, .int (nI v)]) ++ List.replicate (4 - (lg_sl ([.ref x, .int (nI v)])).length) Slot.unset).toArray = ls at hl ⊢
  have hl : lv_has ls 4 [(0, .ref x), (1, .int (nI v))] := hl
  have join25 : ∀ (b : Bool), ((!decide (pn ≤ 0) && decide (f 2 v = nI pn)) = b) → ∀ (locs : List Loc), va_S (md_A x g) s.heap H locs → ∀ (ls : Array Slot), lv_has ls 4 [(0, .ref x), (1, .int (nI v))] → W p l e (headSpec w_Md_isPad ({ frames := 0, cells := 0, slots := 0, locals := 0 })).room s m ([.ref x, .int (nI v)] : List Value).toArray below meth c H locs 0 0 (MQ below (hQi (fun r H' => md_I D cs H' x g i f ∧ r = bI (isPadB f pn v)) (md_A x g)) ([.ref x, .int (nI v)] : List Value).toArray s 0 0 (md_A x g)) (F0 m 25 ls [.int (bI b)]) := by
    intro b hb0 locs hS ls hl
    refine lv_istore_n (lv' := [(2, .int (bI b)), (0, .ref x), (1, .int (nI v))]) hx hb d_Md_isPad_25 rfl hl (by decide) rfl (fun ls hl => ?_)
    refine lv_iconst (v := 0) hx hb d_Md_isPad_26 (by decide) ?_
    refine lv_istore_n (lv' := [(3, .int 0), (2, .int (bI b)), (0, .ref x), (1, .int (nI v))]) hx hb d_Md_isPad_27 rfl hl (by decide) rfl (fun ls hl => ?_)
    have loop28 : ∀ (fuel : Nat) (b : Bool) (k : Nat), pn - k < fuel → (k ≤ pn) → (((!decide (pn ≤ 0) && decide (f 2 v = nI pn)) && allTo (padP f v) k) = b) → ∀ (locs : List Loc), va_S (md_A x g) s.heap H locs → ∀ (ls : Array Slot), lv_has ls 4 [(0, .ref x), (1, .int (nI v)), (2, .int (bI b)), (3, .int (nI k))] → W p l e (headSpec w_Md_isPad ({ frames := 0, cells := 0, slots := 0, locals := 0 })).room s m ([.ref x, .int (nI v)] : List Value).toArray below meth c H locs 0 0 (MQ below (hQi (fun r H' => md_I D cs H' x g i f ∧ r = bI (isPadB f pn v)) (md_A x g)) ([.ref x, .int (nI v)] : List Value).toArray s 0 0 (md_A x g)) (F0 m 28 ls []) := by
      intro fuel28
      induction fuel28 with
      | zero => intro b k hn; exact absurd hn (Nat.not_lt_zero _)
      | succ fuel28 ih28 =>
        intro b k hn28 hk hq9 locs hS ls hl
        refine lv_iload_n hx hb d_Md_isPad_28 rfl (lv_at hl 3 rfl) ?_
        refine lv_aload_n hx hb d_Md_isPad_29 rfl (lv_at hl 0 rfl) ?_
        refine hx_get (v := .int (i 1)) hx hb htg iMd hown hK hI.1 rfl 1 (by decide) (htg _ (gw_mem (i := 999) (by decide +kernel) rfl)) (fun _ h9 => h9) rfl d_Md_isPad_30 ?_
        refine lv_eqi (y := (nI pn)) hpn ?_
        refine lv_icmp_ge (x := (nI k)) (y := (nI pn)) (tgt := 72) hx hb d_Md_isPad_33 (by decide) (fun c33 => ?_) (fun c33 => ?_)
        · skip
          replace c33 : pn ≤ k := (nI_leI (a := pn) (b := k) (by omega) (by omega)).mp c33
          refine lv_iload_n hx hb d_Md_isPad_72 rfl (lv_at hl 2 rfl) ?_
          exact W.zret (v := (bI b)) hx hb hr (bI_z _) (fun t ht hW => ⟨⟨(bI b), H, rfl, ⟨hI, by have e9 : k = pn := (by omega); subst e9; rw [isPadB, hq9]⟩, ht⟩, hS.F ht⟩) hS.2.2 d_Md_isPad_73
        · skip
          replace c33 : ¬ (pn ≤ k) := fun z9 => c33 ((nI_leI (a := pn) (b := k) (by omega) (by omega)).mpr z9)
          refine lv_iload_n hx hb d_Md_isPad_36 rfl (lv_at hl 2 rfl) ?_
          refine lv_if_eq (x := (bI b)) (tgt := 72) hx hb d_Md_isPad_37 (by decide) (fun c37 => ?_) (fun c37 => ?_)
          · skip
            replace c37 : b = false := bI_0 c37
            refine lv_iload_n hx hb d_Md_isPad_72 rfl (lv_at hl 2 rfl) ?_
            exact W.zret (v := (bI b)) hx hb hr (bI_z _) (fun t ht hW => ⟨⟨(bI b), H, rfl, ⟨hI, by rw [isPadB, all_stop (hq9.trans c37) hk, c37]⟩, ht⟩, hS.F ht⟩) hS.2.2 d_Md_isPad_73
          · skip
            replace c37 : b = true := bI_1 c37
            refine lv_aload_n hx hb d_Md_isPad_40 rfl (lv_at hl 0 rfl) ?_
            refine hx_get (v := .ref (g 3)) hx hb htg iMd hown hK hI.1 rfl 6 (by decide) (htg _ (gw_mem (i := 1004) (by decide +kernel) rfl)) (fun _ h9 => h9) rfl d_Md_isPad_41 ?_
            refine lv_bipush (v := 12) hx hb d_Md_isPad_44 (by decide) ?_
            refine lv_iload_n hx hb d_Md_isPad_46 rfl (lv_at hl 1 rfl) ?_
            refine lv_imul (x := 12) (y := (nI v)) hx hb d_Md_isPad_47 ?_
            refine lv_eqi (y := (nI (12 * v))) (pk_mul 12 v) ?_
            refine lv_iload_n hx hb d_Md_isPad_48 rfl (lv_at hl 3 rfl) ?_
            refine lv_iadd (x := (nI (12 * v))) (y := (nI k)) hx hb d_Md_isPad_49 ?_
            refine lv_eqi (y := (nI (12 * v + k))) (nI_add (12 * v) k) ?_
            refine hx_iald hx hb hK 0 (hI.2 3 (by decide)) rfl (show vp_in (nI (12 * v + k)) 1152 from vp_in_nI (n := 12 * v + k) (by omega) (by decide)) d_Md_isPad_50 ?_
            refine lv_eqi (y := (f 3 (12 * v + k))) (show f 3 (nI (12 * v + k)).toNatClampNeg = _ by rw [nI_clamp (by omega)]) ?_
            refine lv_aload_n hx hb d_Md_isPad_51 rfl (lv_at hl 0 rfl) ?_
            refine hx_get (v := .ref (g 0)) hx hb htg iMd hown hK hI.1 rfl 2 (by decide) (htg _ (gw_mem (i := 1000) (by decide +kernel) rfl)) (fun _ h9 => h9) rfl d_Md_isPad_52 ?_
            refine lv_iload_n hx hb d_Md_isPad_55 rfl (lv_at hl 3 rfl) ?_
            refine hx_iald hx hb hK 0 (hI.2 0 (by decide)) rfl (show vp_in (nI k) 12 from vp_in_nI (n := k) (by omega) (by decide)) d_Md_isPad_56 ?_
            refine lv_eqi (y := (f 0 k)) (show f 0 (nI k).toNatClampNeg = _ by rw [nI_clamp (by omega)]) ?_
            refine lv_icmp_ne (x := (f 3 (12 * v + k))) (y := (f 0 k)) (tgt := 64) hx hb d_Md_isPad_57 (by decide) (fun c57 => ?_) (fun c57 => ?_)
            · skip
              refine lv_iconst (v := 0) hx hb d_Md_isPad_64 (by decide) ?_
              refine lv_istore_n (lv' := [(2, .int 0), (0, .ref x), (1, .int (nI v)), (3, .int (nI k))]) hx hb d_Md_isPad_65 rfl hl (by decide) rfl (fun ls hl => ?_)
              refine lv_iinc (v := (nI (k + 1))) (lv' := [(3, .int (nI (k + 1))), (2, .int 0), (0, .ref x), (1, .int (nI v))]) hx hb d_Md_isPad_66 hl (k := 3) rfl (nI_1 k) (by decide) rfl (fun ls hl => ?_)
              refine lv_goto (tgt := 28) hx hb d_Md_isPad_69 (by decide) ?_
              exact ih28  false (k + 1) (by omega) (by omega) (by rw [allTo, ← Bool.and_assoc, hq9, c37]; simp [padP, c57]) _ hS ls (lv_sub hl [2, 3, 1, 0] rfl)
            · skip
              refine lv_iconst (v := 1) hx hb d_Md_isPad_60 (by decide) ?_
              refine lv_goto (tgt := 65) hx hb d_Md_isPad_61 (by decide) ?_
              refine lv_istore_n (lv' := [(2, .int 1), (0, .ref x), (1, .int (nI v)), (3, .int (nI k))]) hx hb d_Md_isPad_65 rfl hl (by decide) rfl (fun ls hl => ?_)
              refine lv_iinc (v := (nI (k + 1))) (lv' := [(3, .int (nI (k + 1))), (2, .int 1), (0, .ref x), (1, .int (nI v))]) hx hb d_Md_isPad_66 hl (k := 3) rfl (nI_1 k) (by decide) rfl (fun ls hl => ?_)
              refine lv_goto (tgt := 28) hx hb d_Md_isPad_69 (by decide) ?_
              exact ih28  true (k + 1) (by omega) (by omega) (by rw [allTo, ← Bool.and_assoc, hq9, c37]; simp [padP, c57]) _ hS ls (lv_sub hl [2, 3, 1, 0] rfl)
    exact loop28 ((pn - 0) + 1) b 0 (Nat.lt_succ_self _) (Nat.zero_le _) (by rw [hb0]; simp [allTo]) _ hS ls (lv_sub hl [2, 3, 1, 0] rfl)
  refine lv_aload_n hx hb d_Md_isPad_0 rfl (lv_at hl 0 rfl) ?_
  refine hx_get (v := .int (i 1)) hx hb htg iMd hown hK hI.1 rfl 1 (by decide) (htg _ (gw_mem (i := 999) (by decide +kernel) rfl)) (fun _ h9 => h9) rfl d_Md_isPad_1 ?_
  refine lv_eqi (y := (nI pn)) hpn ?_
  refine lv_if_le (x := (nI pn)) (tgt := 24) hx hb d_Md_isPad_4 (by decide) (fun c4 => ?_) (fun c4 => ?_)
  · skip
    replace c4 : pn ≤ 0 := (nI_leI (a := pn) (b := 0) (by omega) (by omega)).mp c4
    refine lv_iconst (v := 0) hx hb d_Md_isPad_24 (by decide) ?_
    exact join25  false  (by simp [c4]) _ hS ls (lv_sub hl [0, 1] rfl)
  · skip
    replace c4 : ¬ (pn ≤ 0) := fun z9 => c4 ((nI_leI (a := pn) (b := 0) (by omega) (by omega)).mpr z9)
    refine lv_aload_n hx hb d_Md_isPad_7 rfl (lv_at hl 0 rfl) ?_
    refine hx_get (v := .ref (g 2)) hx hb htg iMd hown hK hI.1 rfl 5 (by decide) (htg _ (gw_mem (i := 1003) (by decide +kernel) rfl)) (fun _ h9 => h9) rfl d_Md_isPad_8 ?_
    refine lv_iload_n hx hb d_Md_isPad_11 rfl (lv_at hl 1 rfl) ?_
    refine hx_iald hx hb hK 0 (hI.2 2 (by decide)) rfl (show vp_in (nI v) 96 from vp_in_nI (n := v) (by omega) (by decide)) d_Md_isPad_12 ?_
    refine lv_eqi (y := (f 2 v)) (show f 2 (nI v).toNatClampNeg = _ by rw [nI_clamp (by omega)]) ?_
    refine lv_aload_n hx hb d_Md_isPad_13 rfl (lv_at hl 0 rfl) ?_
    refine hx_get (v := .int (i 1)) hx hb htg iMd hown hK hI.1 rfl 1 (by decide) (htg _ (gw_mem (i := 999) (by decide +kernel) rfl)) (fun _ h9 => h9) rfl d_Md_isPad_14 ?_
    refine lv_eqi (y := (nI pn)) hpn ?_
    refine lv_icmp_ne (x := (f 2 v)) (y := (nI pn)) (tgt := 24) hx hb d_Md_isPad_17 (by decide) (fun c17 => ?_) (fun c17 => ?_)
    · skip
      refine lv_iconst (v := 0) hx hb d_Md_isPad_24 (by decide) ?_
      exact join25  false  (by simp [c4, c17]) _ hS ls (lv_sub hl [0, 1] rfl)
    · skip
      refine lv_iconst (v := 1) hx hb d_Md_isPad_20 (by decide) ?_
      refine lv_goto (tgt := 25) hx hb d_Md_isPad_21 (by decide) ?_
      exact join25  true  (by simp [c4, c17]) _ hS ls (lv_sub hl [0, 1] rfl)
def y_Md_hasPad : MethodName := ⟨"NameMergesModel", "hasPad", "(II)Z"⟩
abbrev w_Md_hasPad : List Cond := Cond.code y_Md_hasPad prog_7_method_28_code 5 (Option.some Jvm.ClassFile.FieldType.boolean) :: gw
theorem d_Md_hasPad_0 : decode prog_7_method_28_code 0 = .ok (.iconst 0, 1) := by decide +kernel
theorem d_Md_hasPad_1 : decode prog_7_method_28_code 1 = .ok (.istore_n 3, 1) := by decide +kernel
theorem d_Md_hasPad_2 : decode prog_7_method_28_code 2 = .ok (.iconst 4, 1) := by decide +kernel
theorem d_Md_hasPad_3 : decode prog_7_method_28_code 3 = .ok (.iload_n 1, 1) := by decide +kernel
theorem d_Md_hasPad_4 : decode prog_7_method_28_code 4 = .ok (.imul, 1) := by decide +kernel
theorem d_Md_hasPad_5 : decode prog_7_method_28_code 5 = .ok (.istore 4, 2) := by decide +kernel
theorem d_Md_hasPad_7 : decode prog_7_method_28_code 7 = .ok (.iload 4, 2) := by decide +kernel
theorem d_Md_hasPad_9 : decode prog_7_method_28_code 9 = .ok (.iconst 4, 1) := by decide +kernel
theorem d_Md_hasPad_10 : decode prog_7_method_28_code 10 = .ok (.iload_n 1, 1) := by decide +kernel
theorem d_Md_hasPad_11 : decode prog_7_method_28_code 11 = .ok (.imul, 1) := by decide +kernel
theorem d_Md_hasPad_12 : decode prog_7_method_28_code 12 = .ok (.aload_n 0, 1) := by decide +kernel
theorem d_Md_hasPad_13 : decode prog_7_method_28_code 13 = .ok (.getfield 13, 3) := by decide +kernel
theorem d_Md_hasPad_16 : decode prog_7_method_28_code 16 = .ok (.iload_n 1, 1) := by decide +kernel
theorem d_Md_hasPad_17 : decode prog_7_method_28_code 17 = .ok (.iaload, 1) := by decide +kernel
theorem d_Md_hasPad_18 : decode prog_7_method_28_code 18 = .ok (.iadd, 1) := by decide +kernel
theorem d_Md_hasPad_19 : decode prog_7_method_28_code 19 = .ok (.if_icmp .ge 50, 3) := by decide +kernel
theorem d_Md_hasPad_22 : decode prog_7_method_28_code 22 = .ok (.iload_n 3, 1) := by decide +kernel
theorem d_Md_hasPad_23 : decode prog_7_method_28_code 23 = .ok (.ifCond .ne 34, 3) := by decide +kernel
theorem d_Md_hasPad_26 : decode prog_7_method_28_code 26 = .ok (.aload_n 0, 1) := by decide +kernel
theorem d_Md_hasPad_27 : decode prog_7_method_28_code 27 = .ok (.getfield 25, 3) := by decide +kernel
theorem d_Md_hasPad_30 : decode prog_7_method_28_code 30 = .ok (.iload 4, 2) := by decide +kernel
theorem d_Md_hasPad_32 : decode prog_7_method_28_code 32 = .ok (.iaload, 1) := by decide +kernel
theorem d_Md_hasPad_33 : decode prog_7_method_28_code 33 = .ok (.iload_n 2, 1) := by decide +kernel
theorem d_Md_hasPad_34 : decode prog_7_method_28_code 34 = .ok (.if_icmp .gt 27, 3) := by decide +kernel
theorem d_Md_hasPad_37 : decode prog_7_method_28_code 37 = .ok (.iload_n 2, 1) := by decide +kernel
theorem d_Md_hasPad_38 : decode prog_7_method_28_code 38 = .ok (.aload_n 0, 1) := by decide +kernel
theorem d_Md_hasPad_39 : decode prog_7_method_28_code 39 = .ok (.getfield 28, 3) := by decide +kernel
theorem d_Md_hasPad_42 : decode prog_7_method_28_code 42 = .ok (.iload 4, 2) := by decide +kernel
theorem d_Md_hasPad_44 : decode prog_7_method_28_code 44 = .ok (.iaload, 1) := by decide +kernel
theorem d_Md_hasPad_45 : decode prog_7_method_28_code 45 = .ok (.if_icmp .gt 16, 3) := by decide +kernel
theorem d_Md_hasPad_48 : decode prog_7_method_28_code 48 = .ok (.aload_n 0, 1) := by decide +kernel
theorem d_Md_hasPad_49 : decode prog_7_method_28_code 49 = .ok (.iload 4, 2) := by decide +kernel
theorem d_Md_hasPad_51 : decode prog_7_method_28_code 51 = .ok (.invokevirtual 127, 3) := by decide +kernel
theorem d_Md_hasPad_54 : decode prog_7_method_28_code 54 = .ok (.ifCond .eq 7, 3) := by decide +kernel
theorem d_Md_hasPad_57 : decode prog_7_method_28_code 57 = .ok (.iconst 1, 1) := by decide +kernel
theorem d_Md_hasPad_58 : decode prog_7_method_28_code 58 = .ok (.goto 4, 3) := by decide +kernel
theorem d_Md_hasPad_61 : decode prog_7_method_28_code 61 = .ok (.iconst 0, 1) := by decide +kernel
theorem d_Md_hasPad_62 : decode prog_7_method_28_code 62 = .ok (.istore_n 3, 1) := by decide +kernel
theorem d_Md_hasPad_63 : decode prog_7_method_28_code 63 = .ok (.iinc 4 1, 3) := by decide +kernel
theorem d_Md_hasPad_66 : decode prog_7_method_28_code 66 = .ok (.goto (-59), 3) := by decide +kernel
theorem d_Md_hasPad_69 : decode prog_7_method_28_code 69 = .ok (.iload_n 3, 1) := by decide +kernel
theorem d_Md_hasPad_70 : decode prog_7_method_28_code 70 = .ok (.ireturn, 1) := by decide +kernel
set_option maxHeartbeats 4000000 in
set_option maxRecDepth 100000 in
theorem c_Md_hasPad (l : Launch) (D : va_G) (cs : Nat → ClassId) (N0 : Nat) (H : Heap) (x : Nat) (g : Nat → Nat) (i : Nat → Int32) (f : Nat → Nat → Int32) (a : Nat) (dy : Int32) (hsep : md_sep N0 x g) (hI : md_I D cs H x g i f) (pn : Nat) (hpn : i 1 = nI pn) (hp12 : pn ≤ 12) (mn : Nat → Nat) (hm : ∀ a, a < 24 → f 1 a = nI (mn a) ∧ mn a ≤ 4) (ha : a < 24) : Met l y_Md_hasPad w_Md_hasPad ({ frames := 1, cells := 0, slots := 0, locals := 23 }) (hPre D cs N0 [.ref x, .int (nI a), .int dy] H) (hQi (fun r H' => md_I D cs H' x g i f ∧ r = bI (anyTo (hasP f pn a dy) (mn a))) (md_A x g)) 0 0 (md_A x g) := by
  refine Met.ofW (cc := prog_7_method_28_code) (maxL := 5) (ret := (Option.some Jvm.ClassFile.FieldType.boolean)) (by decide) rfl ?_
  intro p e s m args below meth c s₁ B hml hv
  obtain ⟨rfl, rfl, hB⟩ := hv
  have hx := B.exec
  have hb := B.bytes
  have hr := B.returns
  have hts := atoms_spec (ws := w_Md_hasPad) B.pre
  have htg : ∀ w ∈ gw, w.before _ s = true := fun w h => hts w (List.mem_cons_of_mem _ h)
  have hown : s.vm.findClass "NameMergesModel" = some m.cls := findClass_of_methodNamed B.named
  have hlocks := B.notSynchronized
  have hK := hB.1
  have hS : va_S (md_A x g) s.heap s.heap [] := va_S.rf
  obtain ⟨H, hH⟩ : ∃ z : Heap, z = s.heap := ⟨_, rfl⟩
  rw [← hH] at hI
  have hS : va_S (md_A x g) s.heap H [] := by rw [hH]; exact va_S.rf
  have hl := lv_entry ([.ref x, .int (nI a), .int dy]) (n := 5) (Nat.le_of_ble_eq_true rfl)
  rw [lg_entry_eq, ← hH]
  generalize (lg_sl ([.ref x, .int (nI a), .int dy]) ++ List.replicate (5 - (lg_sl ([.ref x, .int (nI a), .int dy])).length) Slot.unset).toArray = ls at hl ⊢
  have hl : lv_has ls 5 [(0, .ref x), (1, .int (nI a)), (2, .int dy)] := hl
  have hma := (hm a ha).2
  refine lv_iconst (v := 0) hx hb d_Md_hasPad_0 (by decide) ?_
  refine lv_istore_n (lv' := [(3, .int 0), (0, .ref x), (1, .int (nI a)), (2, .int dy)]) hx hb d_Md_hasPad_1 rfl hl (by decide) rfl (fun ls hl => ?_)
  refine lv_iconst (v := 4) hx hb d_Md_hasPad_2 (by decide) ?_
  refine lv_iload_n hx hb d_Md_hasPad_3 rfl (lv_at hl 2 rfl) ?_
  refine lv_imul (x := 4) (y := (nI a)) hx hb d_Md_hasPad_4 ?_
  refine lv_eqi (y := (nI (4 * a))) (pk_mul 4 a) ?_
  refine lv_istore (lv' := [(4, .int (nI (4 * a))), (3, .int 0), (0, .ref x), (1, .int (nI a)), (2, .int dy)]) hx hb d_Md_hasPad_5 hl (by decide) rfl (fun ls hl => ?_)
  have loop7 : ∀ (fuel : Nat) (b : Bool) (j : Nat), mn a - j < fuel → (j ≤ mn a) → (anyTo (hasP f pn a dy) j = b) → ∀ (H : Heap) (locs : List Loc), md_I D cs H x g i f → va_S (md_A x g) s.heap H locs → ∀ (ls : Array Slot), lv_has ls 5 [(0, .ref x), (1, .int (nI a)), (2, .int dy), (3, .int (bI b)), (4, .int (nI (4 * a + j)))] → W p l e (headSpec w_Md_hasPad ({ frames := 1, cells := 0, slots := 0, locals := 23 })).room s m ([.ref x, .int (nI a), .int dy] : List Value).toArray below meth c H locs 0 0 (MQ below (hQi (fun r H' => md_I D cs H' x g i f ∧ r = bI (anyTo (hasP f pn a dy) (mn a))) (md_A x g)) ([.ref x, .int (nI a), .int dy] : List Value).toArray s 0 0 (md_A x g)) (F0 m 7 ls []) := by
    intro fuel7
    induction fuel7 with
    | zero => intro b j hn; exact absurd hn (Nat.not_lt_zero _)
    | succ fuel7 ih7 =>
      intro b j hn7 hj hq9 H locs hI hS ls hl
      refine lv_iload hx hb d_Md_hasPad_7 (lv_at hl 4 rfl) ?_
      refine lv_iconst (v := 4) hx hb d_Md_hasPad_9 (by decide) ?_
      refine lv_iload_n hx hb d_Md_hasPad_10 rfl (lv_at hl 1 rfl) ?_
      refine lv_imul (x := 4) (y := (nI a)) hx hb d_Md_hasPad_11 ?_
      refine lv_eqi (y := (nI (4 * a))) (pk_mul 4 a) ?_
      refine lv_aload_n hx hb d_Md_hasPad_12 rfl (lv_at hl 0 rfl) ?_
      refine hx_get (v := .ref (g 1)) hx hb htg iMd hown hK hI.1 rfl 4 (by decide) (htg _ (gw_mem (i := 1002) (by decide +kernel) rfl)) (fun _ h9 => h9) rfl d_Md_hasPad_13 ?_
      refine lv_iload_n hx hb d_Md_hasPad_16 rfl (lv_at hl 1 rfl) ?_
      refine hx_iald hx hb hK 0 (hI.2 1 (by decide)) rfl (show vp_in (nI a) 24 from vp_in_nI (n := a) (by omega) (by decide)) d_Md_hasPad_17 ?_
      refine lv_eqi (y := (f 1 a)) (show f 1 (nI a).toNatClampNeg = _ by rw [nI_clamp (by omega)]) ?_
      refine lv_eqi (y := (nI (mn a))) (hm a ha).1 ?_
      have hma := (hm a ha).2
      refine lv_iadd (x := (nI (4 * a))) (y := (nI (mn a))) hx hb d_Md_hasPad_18 ?_
      refine lv_eqi (y := (nI (4 * a + mn a))) (nI_add (4 * a) (mn a)) ?_
      refine lv_icmp_ge (x := (nI (4 * a + j))) (y := (nI (4 * a + mn a))) (tgt := 69) hx hb d_Md_hasPad_19 (by decide) (fun c19 => ?_) (fun c19 => ?_)
      · skip
        replace c19 : (4 * a + mn a) ≤ (4 * a + j) := (nI_leI (a := (4 * a + mn a)) (b := (4 * a + j)) (by omega) (by omega)).mp c19
        refine lv_iload_n hx hb d_Md_hasPad_69 rfl (lv_at hl 3 rfl) ?_
        exact W.zret (v := (bI b)) hx hb hr (bI_z _) (fun t ht hW => ⟨⟨(bI b), H, rfl, ⟨hI, by have e9 : j = mn a := (by omega); subst e9; rw [hq9]⟩, ht⟩, hS.F ht⟩) hS.2.2 d_Md_hasPad_70
      · skip
        replace c19 : ¬ ((4 * a + mn a) ≤ (4 * a + j)) := fun z9 => c19 ((nI_leI (a := (4 * a + mn a)) (b := (4 * a + j)) (by omega) (by omega)).mpr z9)
        refine lv_iload_n hx hb d_Md_hasPad_22 rfl (lv_at hl 3 rfl) ?_
        refine lv_if_ne (x := (bI b)) (tgt := 57) hx hb d_Md_hasPad_23 (by decide) (fun c23 => ?_) (fun c23 => ?_)
        · skip
          replace c23 : b = true := bI_1 c23
          refine lv_iconst (v := 1) hx hb d_Md_hasPad_57 (by decide) ?_
          refine lv_goto (tgt := 62) hx hb d_Md_hasPad_58 (by decide) ?_
          refine lv_istore_n (lv' := [(3, .int 1), (0, .ref x), (1, .int (nI a)), (2, .int dy), (4, .int (nI (4 * a + j)))]) hx hb d_Md_hasPad_62 rfl hl (by decide) rfl (fun ls hl => ?_)
          refine lv_iinc (v := (nI (4 * a + j + 1))) (lv' := [(4, .int (nI (4 * a + j + 1))), (3, .int 1), (0, .ref x), (1, .int (nI a)), (2, .int dy)]) hx hb d_Md_hasPad_63 hl (k := 4) rfl (nI_1 (4 * a + j)) (by decide) rfl (fun ls hl => ?_)
          refine lv_goto (tgt := 7) hx hb d_Md_hasPad_66 (by decide) ?_
          exact ih7  true (j + 1) (by omega) (by omega) (by rw [anyTo, hq9]; simp [hasP, c23]) _ _ hI hS ls (lv_sub hl [2, 3, 4, 1, 0] rfl)
        · skip
          replace c23 : b = false := bI_0 c23
          refine lv_aload_n hx hb d_Md_hasPad_26 rfl (lv_at hl 0 rfl) ?_
          refine hx_get (v := .ref (g 5)) hx hb htg iMd hown hK hI.1 rfl 8 (by decide) (htg _ (gw_mem (i := 1006) (by decide +kernel) rfl)) (fun _ h9 => h9) rfl d_Md_hasPad_27 ?_
          refine lv_iload hx hb d_Md_hasPad_30 (lv_at hl 4 rfl) ?_
          refine hx_iald hx hb hK 0 (hI.2 5 (by decide)) rfl (show vp_in (nI (4 * a + j)) 96 from vp_in_nI (n := 4 * a + j) (by omega) (by decide)) d_Md_hasPad_32 ?_
          refine lv_eqi (y := (f 5 (4 * a + j))) (show f 5 (nI (4 * a + j)).toNatClampNeg = _ by rw [nI_clamp (by omega)]) ?_
          refine lv_iload_n hx hb d_Md_hasPad_33 rfl (lv_at hl 2 rfl) ?_
          refine lv_icmp_gt (x := (f 5 (4 * a + j))) (y := dy) (tgt := 61) hx hb d_Md_hasPad_34 (by decide) (fun c34 => ?_) (fun c34 => ?_)
          · skip
            refine lv_iconst (v := 0) hx hb d_Md_hasPad_61 (by decide) ?_
            refine lv_istore_n (lv' := [(3, .int 0), (0, .ref x), (1, .int (nI a)), (2, .int dy), (4, .int (nI (4 * a + j)))]) hx hb d_Md_hasPad_62 rfl hl (by decide) rfl (fun ls hl => ?_)
            refine lv_iinc (v := (nI (4 * a + j + 1))) (lv' := [(4, .int (nI (4 * a + j + 1))), (3, .int 0), (0, .ref x), (1, .int (nI a)), (2, .int dy)]) hx hb d_Md_hasPad_63 hl (k := 4) rfl (nI_1 (4 * a + j)) (by decide) rfl (fun ls hl => ?_)
            refine lv_goto (tgt := 7) hx hb d_Md_hasPad_66 (by decide) ?_
            exact ih7  false (j + 1) (by omega) (by omega) (by rw [anyTo, hq9]; simp [hasP, c23, c34]) _ _ hI hS ls (lv_sub hl [2, 3, 4, 1, 0] rfl)
          · skip
            refine lv_iload_n hx hb d_Md_hasPad_37 rfl (lv_at hl 2 rfl) ?_
            refine lv_aload_n hx hb d_Md_hasPad_38 rfl (lv_at hl 0 rfl) ?_
            refine hx_get (v := .ref (g 6)) hx hb htg iMd hown hK hI.1 rfl 9 (by decide) (htg _ (gw_mem (i := 1007) (by decide +kernel) rfl)) (fun _ h9 => h9) rfl d_Md_hasPad_39 ?_
            refine lv_iload hx hb d_Md_hasPad_42 (lv_at hl 4 rfl) ?_
            refine hx_iald hx hb hK 0 (hI.2 6 (by decide)) rfl (show vp_in (nI (4 * a + j)) 96 from vp_in_nI (n := 4 * a + j) (by omega) (by decide)) d_Md_hasPad_44 ?_
            refine lv_eqi (y := (f 6 (4 * a + j))) (show f 6 (nI (4 * a + j)).toNatClampNeg = _ by rw [nI_clamp (by omega)]) ?_
            refine lv_icmp_gt (x := dy) (y := (f 6 (4 * a + j))) (tgt := 61) hx hb d_Md_hasPad_45 (by decide) (fun c45 => ?_) (fun c45 => ?_)
            · skip
              refine lv_iconst (v := 0) hx hb d_Md_hasPad_61 (by decide) ?_
              refine lv_istore_n (lv' := [(3, .int 0), (0, .ref x), (1, .int (nI a)), (2, .int dy), (4, .int (nI (4 * a + j)))]) hx hb d_Md_hasPad_62 rfl hl (by decide) rfl (fun ls hl => ?_)
              refine lv_iinc (v := (nI (4 * a + j + 1))) (lv' := [(4, .int (nI (4 * a + j + 1))), (3, .int 0), (0, .ref x), (1, .int (nI a)), (2, .int dy)]) hx hb d_Md_hasPad_63 hl (k := 4) rfl (nI_1 (4 * a + j)) (by decide) rfl (fun ls hl => ?_)
              refine lv_goto (tgt := 7) hx hb d_Md_hasPad_66 (by decide) ?_
              exact ih7  false (j + 1) (by omega) (by omega) (by rw [anyTo, hq9]; simp [hasP, c23, c34, c45]) _ _ hI hS ls (lv_sub hl [2, 3, 4, 1, 0] rfl)
            · skip
              refine lv_aload_n hx hb d_Md_hasPad_48 rfl (lv_at hl 0 rfl) ?_
              refine lv_iload hx hb d_Md_hasPad_49 (lv_at hl 4 rfl) ?_
              refine h_calli (va_runV (As := [.int (nI (4 * a + j))]) (rest := []) ⟨hx, hb, hml, hown, htg⟩ (c_Md_isPad l D cs N0 H x g i f (4 * a + j) hsep hI pn hpn hp12 (by omega)) (cwV 1 htg (gw_V (gw_mem (i := 1192) (by decide +kernel) rfl) (gw_mem (i := 1194) (by decide +kernel) rfl) (gw_mem (i := 27) (by decide +kernel) rfl) (gw_mem (i := 38) (by decide +kernel) rfl) (gw_mem (i := 1195) (by decide +kernel) rfl)) rfl rfl rfl (by decide +kernel) ⟨Nat.le_of_ble_eq_true rfl, Nat.le_of_ble_eq_true rfl⟩) ⟨hPre.blind, hx_recv hK (ci := 0) rfl hI.1, hPre.at hB hS hsep.A⟩ rfl rfl hl.1 rfl (lv_room (Nat.le_of_ble_eq_true rfl)) d_Md_hasPad_51 ⟨Nat.zero_le _, Nat.zero_le _⟩) hS (fun _ h => h) (fun r51 H locs hp hz hk hS => ?_)
              obtain ⟨hI, er51⟩ := hp
              refine lv_eqi (y := bI (isPadB f pn (4 * a + j))) er51 ?_
              refine lv_if_eq (x := (bI (isPadB f pn (4 * a + j)))) (tgt := 61) hx hb d_Md_hasPad_54 (by decide) (fun c54 => ?_) (fun c54 => ?_)
              · skip
                replace c54 : (isPadB f pn (4 * a + j)) = false := bI_0 c54
                refine lv_iconst (v := 0) hx hb d_Md_hasPad_61 (by decide) ?_
                refine lv_istore_n (lv' := [(3, .int 0), (0, .ref x), (1, .int (nI a)), (2, .int dy), (4, .int (nI (4 * a + j)))]) hx hb d_Md_hasPad_62 rfl hl (by decide) rfl (fun ls hl => ?_)
                refine lv_iinc (v := (nI (4 * a + j + 1))) (lv' := [(4, .int (nI (4 * a + j + 1))), (3, .int 0), (0, .ref x), (1, .int (nI a)), (2, .int dy)]) hx hb d_Md_hasPad_63 hl (k := 4) rfl (nI_1 (4 * a + j)) (by decide) rfl (fun ls hl => ?_)
                refine lv_goto (tgt := 7) hx hb d_Md_hasPad_66 (by decide) ?_
                exact ih7  false (j + 1) (by omega) (by omega) (by rw [anyTo, hq9]; simp [hasP, c23, c34, c45, c54]) _ _ hI hS ls (lv_sub hl [2, 3, 4, 1, 0] rfl)
              · skip
                replace c54 : (isPadB f pn (4 * a + j)) = true := bI_1 c54
                refine lv_iconst (v := 1) hx hb d_Md_hasPad_57 (by decide) ?_
                refine lv_goto (tgt := 62) hx hb d_Md_hasPad_58 (by decide) ?_
                refine lv_istore_n (lv' := [(3, .int 1), (0, .ref x), (1, .int (nI a)), (2, .int dy), (4, .int (nI (4 * a + j)))]) hx hb d_Md_hasPad_62 rfl hl (by decide) rfl (fun ls hl => ?_)
                refine lv_iinc (v := (nI (4 * a + j + 1))) (lv' := [(4, .int (nI (4 * a + j + 1))), (3, .int 1), (0, .ref x), (1, .int (nI a)), (2, .int dy)]) hx hb d_Md_hasPad_63 hl (k := 4) rfl (nI_1 (4 * a + j)) (by decide) rfl (fun ls hl => ?_)
                refine lv_goto (tgt := 7) hx hb d_Md_hasPad_66 (by decide) ?_
                exact ih7  true (j + 1) (by omega) (by omega) (by rw [anyTo, hq9]; simp [hasP, c23, c34, c45, c54]) _ _ hI hS ls (lv_sub hl [2, 3, 4, 1, 0] rfl)
  exact loop7 ((mn a - 0) + 1) false 0 (Nat.lt_succ_self _) (Nat.zero_le _) rfl _ _ hI hS ls (lv_sub hl [2, 3, 4, 1, 0] rfl)
def y_Md_begin : MethodName := ⟨"NameMergesModel", "begin", "(II)Z"⟩
abbrev w_Md_begin : List Cond := Cond.code y_Md_begin prog_7_method_17_code 6 (Option.some Jvm.ClassFile.FieldType.boolean) :: gw
theorem d_Md_begin_0 : decode prog_7_method_17_code 0 = .ok (.iconst 0, 1) := by decide +kernel
theorem d_Md_begin_1 : decode prog_7_method_17_code 1 = .ok (.istore_n 3, 1) := by decide +kernel
theorem d_Md_begin_2 : decode prog_7_method_17_code 2 = .ok (.iconst 4, 1) := by decide +kernel
theorem d_Md_begin_3 : decode prog_7_method_17_code 3 = .ok (.iload_n 1, 1) := by decide +kernel
theorem d_Md_begin_4 : decode prog_7_method_17_code 4 = .ok (.imul, 1) := by decide +kernel
theorem d_Md_begin_5 : decode prog_7_method_17_code 5 = .ok (.istore 4, 2) := by decide +kernel
theorem d_Md_begin_7 : decode prog_7_method_17_code 7 = .ok (.iload 4, 2) := by decide +kernel
theorem d_Md_begin_9 : decode prog_7_method_17_code 9 = .ok (.iconst 4, 1) := by decide +kernel
theorem d_Md_begin_10 : decode prog_7_method_17_code 10 = .ok (.iload_n 1, 1) := by decide +kernel
theorem d_Md_begin_11 : decode prog_7_method_17_code 11 = .ok (.imul, 1) := by decide +kernel
theorem d_Md_begin_12 : decode prog_7_method_17_code 12 = .ok (.aload_n 0, 1) := by decide +kernel
theorem d_Md_begin_13 : decode prog_7_method_17_code 13 = .ok (.getfield 13, 3) := by decide +kernel
theorem d_Md_begin_16 : decode prog_7_method_17_code 16 = .ok (.iload_n 1, 1) := by decide +kernel
theorem d_Md_begin_17 : decode prog_7_method_17_code 17 = .ok (.iaload, 1) := by decide +kernel
theorem d_Md_begin_18 : decode prog_7_method_17_code 18 = .ok (.iadd, 1) := by decide +kernel
theorem d_Md_begin_19 : decode prog_7_method_17_code 19 = .ok (.if_icmp .ge 68, 3) := by decide +kernel
theorem d_Md_begin_22 : decode prog_7_method_17_code 22 = .ok (.iconst 4, 1) := by decide +kernel
theorem d_Md_begin_23 : decode prog_7_method_17_code 23 = .ok (.iload_n 2, 1) := by decide +kernel
theorem d_Md_begin_24 : decode prog_7_method_17_code 24 = .ok (.imul, 1) := by decide +kernel
theorem d_Md_begin_25 : decode prog_7_method_17_code 25 = .ok (.istore 5, 2) := by decide +kernel
theorem d_Md_begin_27 : decode prog_7_method_17_code 27 = .ok (.iload 5, 2) := by decide +kernel
theorem d_Md_begin_29 : decode prog_7_method_17_code 29 = .ok (.iconst 4, 1) := by decide +kernel
theorem d_Md_begin_30 : decode prog_7_method_17_code 30 = .ok (.iload_n 2, 1) := by decide +kernel
theorem d_Md_begin_31 : decode prog_7_method_17_code 31 = .ok (.imul, 1) := by decide +kernel
theorem d_Md_begin_32 : decode prog_7_method_17_code 32 = .ok (.aload_n 0, 1) := by decide +kernel
theorem d_Md_begin_33 : decode prog_7_method_17_code 33 = .ok (.getfield 13, 3) := by decide +kernel
theorem d_Md_begin_36 : decode prog_7_method_17_code 36 = .ok (.iload_n 2, 1) := by decide +kernel
theorem d_Md_begin_37 : decode prog_7_method_17_code 37 = .ok (.iaload, 1) := by decide +kernel
theorem d_Md_begin_38 : decode prog_7_method_17_code 38 = .ok (.iadd, 1) := by decide +kernel
theorem d_Md_begin_39 : decode prog_7_method_17_code 39 = .ok (.if_icmp .ge 42, 3) := by decide +kernel
theorem d_Md_begin_42 : decode prog_7_method_17_code 42 = .ok (.iload_n 3, 1) := by decide +kernel
theorem d_Md_begin_43 : decode prog_7_method_17_code 43 = .ok (.ifCond .ne 26, 3) := by decide +kernel
theorem d_Md_begin_46 : decode prog_7_method_17_code 46 = .ok (.aload_n 0, 1) := by decide +kernel
theorem d_Md_begin_47 : decode prog_7_method_17_code 47 = .ok (.getfield 19, 3) := by decide +kernel
theorem d_Md_begin_50 : decode prog_7_method_17_code 50 = .ok (.bipush 12, 2) := by decide +kernel
theorem d_Md_begin_52 : decode prog_7_method_17_code 52 = .ok (.iload 4, 2) := by decide +kernel
theorem d_Md_begin_54 : decode prog_7_method_17_code 54 = .ok (.imul, 1) := by decide +kernel
theorem d_Md_begin_55 : decode prog_7_method_17_code 55 = .ok (.iaload, 1) := by decide +kernel
theorem d_Md_begin_56 : decode prog_7_method_17_code 56 = .ok (.aload_n 0, 1) := by decide +kernel
theorem d_Md_begin_57 : decode prog_7_method_17_code 57 = .ok (.getfield 19, 3) := by decide +kernel
theorem d_Md_begin_60 : decode prog_7_method_17_code 60 = .ok (.bipush 12, 2) := by decide +kernel
theorem d_Md_begin_62 : decode prog_7_method_17_code 62 = .ok (.iload 5, 2) := by decide +kernel
theorem d_Md_begin_64 : decode prog_7_method_17_code 64 = .ok (.imul, 1) := by decide +kernel
theorem d_Md_begin_65 : decode prog_7_method_17_code 65 = .ok (.iaload, 1) := by decide +kernel
theorem d_Md_begin_66 : decode prog_7_method_17_code 66 = .ok (.if_icmp .ne 7, 3) := by decide +kernel
theorem d_Md_begin_69 : decode prog_7_method_17_code 69 = .ok (.iconst 1, 1) := by decide +kernel
theorem d_Md_begin_70 : decode prog_7_method_17_code 70 = .ok (.goto 4, 3) := by decide +kernel
theorem d_Md_begin_73 : decode prog_7_method_17_code 73 = .ok (.iconst 0, 1) := by decide +kernel
theorem d_Md_begin_74 : decode prog_7_method_17_code 74 = .ok (.istore_n 3, 1) := by decide +kernel
theorem d_Md_begin_75 : decode prog_7_method_17_code 75 = .ok (.iinc 5 1, 3) := by decide +kernel
theorem d_Md_begin_78 : decode prog_7_method_17_code 78 = .ok (.goto (-51), 3) := by decide +kernel
theorem d_Md_begin_81 : decode prog_7_method_17_code 81 = .ok (.iinc 4 1, 3) := by decide +kernel
theorem d_Md_begin_84 : decode prog_7_method_17_code 84 = .ok (.goto (-77), 3) := by decide +kernel
theorem d_Md_begin_87 : decode prog_7_method_17_code 87 = .ok (.iload_n 3, 1) := by decide +kernel
theorem d_Md_begin_88 : decode prog_7_method_17_code 88 = .ok (.ireturn, 1) := by decide +kernel
set_option maxHeartbeats 4000000 in
set_option maxRecDepth 100000 in
theorem c_Md_begin (l : Launch) (D : va_G) (cs : Nat → ClassId) (N0 : Nat) (H : Heap) (x : Nat) (g : Nat → Nat) (i : Nat → Int32) (f : Nat → Nat → Int32) (a b : Nat) (hsep : md_sep N0 x g) (hI : md_I D cs H x g i f) (mn : Nat → Nat) (hm : ∀ a, a < 24 → f 1 a = nI (mn a) ∧ mn a ≤ 4) (ha : a < 24) (hb1 : b < 24) : Met l y_Md_begin w_Md_begin ({ frames := 0, cells := 0, slots := 0, locals := 0 }) (hPre D cs N0 [.ref x, .int (nI a), .int (nI b)] H) (hQi (fun r H' => md_I D cs H' x g i f ∧ r = bI (begB f mn a b)) (md_A x g)) 0 0 (md_A x g) := by
  refine Met.ofW (cc := prog_7_method_17_code) (maxL := 6) (ret := (Option.some Jvm.ClassFile.FieldType.boolean)) (by decide) rfl ?_
  intro p e s m args below meth c s₁ B hml hv
  obtain ⟨rfl, rfl, hB⟩ := hv
  have hx := B.exec
  have hb := B.bytes
  have hr := B.returns
  have hts := atoms_spec (ws := w_Md_begin) B.pre
  have htg : ∀ w ∈ gw, w.before _ s = true := fun w h => hts w (List.mem_cons_of_mem _ h)
  have hown : s.vm.findClass "NameMergesModel" = some m.cls := findClass_of_methodNamed B.named
  have hlocks := B.notSynchronized
  have hK := hB.1
  have hS : va_S (md_A x g) s.heap s.heap [] := va_S.rf
  obtain ⟨H, hH⟩ : ∃ z : Heap, z = s.heap := ⟨_, rfl⟩
  rw [← hH] at hI
  have hS : va_S (md_A x g) s.heap H [] := by rw [hH]; exact va_S.rf
  have hl := lv_entry ([.ref x, .int (nI a), .int (nI b)]) (n := 6) (Nat.le_of_ble_eq_true rfl)
  rw [lg_entry_eq, ← hH]
  generalize (lg_sl ([.ref x, .int (nI a), .int (nI b)]) ++ List.replicate (6 - (lg_sl ([.ref x, .int (nI a), .int (nI b)])).length) Slot.unset).toArray = ls at hl ⊢
  have hl : lv_has ls 6 [(0, .ref x), (1, .int (nI a)), (2, .int (nI b))] := hl
  have hma := (hm a ha).2
  have hmb := (hm b hb1).2
  refine lv_iconst (v := 0) hx hb d_Md_begin_0 (by decide) ?_
  refine lv_istore_n (lv' := [(3, .int 0), (0, .ref x), (1, .int (nI a)), (2, .int (nI b))]) hx hb d_Md_begin_1 rfl hl (by decide) rfl (fun ls hl => ?_)
  refine lv_iconst (v := 4) hx hb d_Md_begin_2 (by decide) ?_
  refine lv_iload_n hx hb d_Md_begin_3 rfl (lv_at hl 2 rfl) ?_
  refine lv_imul (x := 4) (y := (nI a)) hx hb d_Md_begin_4 ?_
  refine lv_eqi (y := (nI (4 * a))) (pk_mul 4 a) ?_
  refine lv_istore (lv' := [(4, .int (nI (4 * a))), (3, .int 0), (0, .ref x), (1, .int (nI a)), (2, .int (nI b))]) hx hb d_Md_begin_5 hl (by decide) rfl (fun ls hl => ?_)
  have loop7 : ∀ (fuel : Nat) (z : Bool) (j : Nat), mn a - j < fuel → (j ≤ mn a) → (anyTo (fun j => anyTo (begP f a b j) (mn b)) j = z) → ∀ (locs : List Loc), va_S (md_A x g) s.heap H locs → ∀ (ls : Array Slot), lv_has ls 6 [(0, .ref x), (1, .int (nI a)), (2, .int (nI b)), (3, .int (bI z)), (4, .int (nI (4 * a + j)))] → W p l e (headSpec w_Md_begin ({ frames := 0, cells := 0, slots := 0, locals := 0 })).room s m ([.ref x, .int (nI a), .int (nI b)] : List Value).toArray below meth c H locs 0 0 (MQ below (hQi (fun r H' => md_I D cs H' x g i f ∧ r = bI (begB f mn a b)) (md_A x g)) ([.ref x, .int (nI a), .int (nI b)] : List Value).toArray s 0 0 (md_A x g)) (F0 m 7 ls []) := by
    intro fuel7
    induction fuel7 with
    | zero => intro z j hn; exact absurd hn (Nat.not_lt_zero _)
    | succ fuel7 ih7 =>
      intro z j hn7 hj hz9 locs hS ls hl
      refine lv_iload hx hb d_Md_begin_7 (lv_at hl 4 rfl) ?_
      refine lv_iconst (v := 4) hx hb d_Md_begin_9 (by decide) ?_
      refine lv_iload_n hx hb d_Md_begin_10 rfl (lv_at hl 1 rfl) ?_
      refine lv_imul (x := 4) (y := (nI a)) hx hb d_Md_begin_11 ?_
      refine lv_eqi (y := (nI (4 * a))) (pk_mul 4 a) ?_
      refine lv_aload_n hx hb d_Md_begin_12 rfl (lv_at hl 0 rfl) ?_
      refine hx_get (v := .ref (g 1)) hx hb htg iMd hown hK hI.1 rfl 4 (by decide) (htg _ (gw_mem (i := 1002) (by decide +kernel) rfl)) (fun _ h9 => h9) rfl d_Md_begin_13 ?_
      refine lv_iload_n hx hb d_Md_begin_16 rfl (lv_at hl 1 rfl) ?_
      refine hx_iald hx hb hK 0 (hI.2 1 (by decide)) rfl (show vp_in (nI a) 24 from vp_in_nI (n := a) (by omega) (by decide)) d_Md_begin_17 ?_
      refine lv_eqi (y := (f 1 a)) (show f 1 (nI a).toNatClampNeg = _ by rw [nI_clamp (by omega)]) ?_
      refine lv_eqi (y := (nI (mn a))) (hm a ha).1 ?_
      refine lv_iadd (x := (nI (4 * a))) (y := (nI (mn a))) hx hb d_Md_begin_18 ?_
      refine lv_eqi (y := (nI (4 * a + mn a))) (nI_add (4 * a) (mn a)) ?_
      refine lv_icmp_ge (x := (nI (4 * a + j))) (y := (nI (4 * a + mn a))) (tgt := 87) hx hb d_Md_begin_19 (by decide) (fun c19 => ?_) (fun c19 => ?_)
      · skip
        replace c19 : (4 * a + mn a) ≤ (4 * a + j) := (nI_leI (a := (4 * a + mn a)) (b := (4 * a + j)) (by omega) (by omega)).mp c19
        refine lv_iload_n hx hb d_Md_begin_87 rfl (lv_at hl 3 rfl) ?_
        exact W.zret (v := (bI z)) hx hb hr (bI_z _) (fun t ht hW => ⟨⟨(bI z), H, rfl, ⟨hI, by have e9 : j = mn a := (by omega); subst e9; rw [begB, hz9]⟩, ht⟩, hS.F ht⟩) hS.2.2 d_Md_begin_88
      · skip
        replace c19 : ¬ ((4 * a + mn a) ≤ (4 * a + j)) := fun z9 => c19 ((nI_leI (a := (4 * a + mn a)) (b := (4 * a + j)) (by omega) (by omega)).mpr z9)
        refine lv_iconst (v := 4) hx hb d_Md_begin_22 (by decide) ?_
        refine lv_iload_n hx hb d_Md_begin_23 rfl (lv_at hl 2 rfl) ?_
        refine lv_imul (x := 4) (y := (nI b)) hx hb d_Md_begin_24 ?_
        refine lv_eqi (y := (nI (4 * b))) (pk_mul 4 b) ?_
        refine lv_istore (lv' := [(5, .int (nI (4 * b))), (0, .ref x), (1, .int (nI a)), (2, .int (nI b)), (3, .int (bI z)), (4, .int (nI (4 * a + j)))]) hx hb d_Md_begin_25 hl (by decide) rfl (fun ls hl => ?_)
        have loop27 : ∀ (fuel : Nat) (y : Bool) (k : Nat), mn b - k < fuel → (k ≤ mn b) → ((z || anyTo (begP f a b j) k) = y) → ∀ (locs : List Loc), va_S (md_A x g) s.heap H locs → ∀ (ls : Array Slot), lv_has ls 6 [(0, .ref x), (1, .int (nI a)), (2, .int (nI b)), (3, .int (bI y)), (4, .int (nI (4 * a + j))), (5, .int (nI (4 * b + k)))] → W p l e (headSpec w_Md_begin ({ frames := 0, cells := 0, slots := 0, locals := 0 })).room s m ([.ref x, .int (nI a), .int (nI b)] : List Value).toArray below meth c H locs 0 0 (MQ below (hQi (fun r H' => md_I D cs H' x g i f ∧ r = bI (begB f mn a b)) (md_A x g)) ([.ref x, .int (nI a), .int (nI b)] : List Value).toArray s 0 0 (md_A x g)) (F0 m 27 ls []) := by
          intro fuel27
          induction fuel27 with
          | zero => intro y k hn; exact absurd hn (Nat.not_lt_zero _)
          | succ fuel27 ih27 =>
            intro y k hn27 hk hy locs hS ls hl
            refine lv_iload hx hb d_Md_begin_27 (lv_at hl 5 rfl) ?_
            refine lv_iconst (v := 4) hx hb d_Md_begin_29 (by decide) ?_
            refine lv_iload_n hx hb d_Md_begin_30 rfl (lv_at hl 2 rfl) ?_
            refine lv_imul (x := 4) (y := (nI b)) hx hb d_Md_begin_31 ?_
            refine lv_eqi (y := (nI (4 * b))) (pk_mul 4 b) ?_
            refine lv_aload_n hx hb d_Md_begin_32 rfl (lv_at hl 0 rfl) ?_
            refine hx_get (v := .ref (g 1)) hx hb htg iMd hown hK hI.1 rfl 4 (by decide) (htg _ (gw_mem (i := 1002) (by decide +kernel) rfl)) (fun _ h9 => h9) rfl d_Md_begin_33 ?_
            refine lv_iload_n hx hb d_Md_begin_36 rfl (lv_at hl 2 rfl) ?_
            refine hx_iald hx hb hK 0 (hI.2 1 (by decide)) rfl (show vp_in (nI b) 24 from vp_in_nI (n := b) (by omega) (by decide)) d_Md_begin_37 ?_
            refine lv_eqi (y := (f 1 b)) (show f 1 (nI b).toNatClampNeg = _ by rw [nI_clamp (by omega)]) ?_
            refine lv_eqi (y := (nI (mn b))) (hm b hb1).1 ?_
            refine lv_iadd (x := (nI (4 * b))) (y := (nI (mn b))) hx hb d_Md_begin_38 ?_
            refine lv_eqi (y := (nI (4 * b + mn b))) (nI_add (4 * b) (mn b)) ?_
            refine lv_icmp_ge (x := (nI (4 * b + k))) (y := (nI (4 * b + mn b))) (tgt := 81) hx hb d_Md_begin_39 (by decide) (fun c39 => ?_) (fun c39 => ?_)
            · skip
              replace c39 : (4 * b + mn b) ≤ (4 * b + k) := (nI_leI (a := (4 * b + mn b)) (b := (4 * b + k)) (by omega) (by omega)).mp c39
              refine lv_iinc (v := (nI (4 * a + j + 1))) (lv' := [(4, .int (nI (4 * a + j + 1))), (0, .ref x), (1, .int (nI a)), (2, .int (nI b)), (3, .int (bI y)), (5, .int (nI (4 * b + k)))]) hx hb d_Md_begin_81 hl (k := 4) rfl (nI_1 (4 * a + j)) (by decide) rfl (fun ls hl => ?_)
              refine lv_goto (tgt := 7) hx hb d_Md_begin_84 (by decide) ?_
              exact ih7  y (j + 1) (by omega) (by omega) (by rw [anyTo, hz9]; have e9 : k = mn b := (by omega); subst e9; exact hy) _ hS ls (lv_sub hl [1, 2, 3, 4, 0] rfl)
            · skip
              replace c39 : ¬ ((4 * b + mn b) ≤ (4 * b + k)) := fun z9 => c39 ((nI_leI (a := (4 * b + mn b)) (b := (4 * b + k)) (by omega) (by omega)).mpr z9)
              refine lv_iload_n hx hb d_Md_begin_42 rfl (lv_at hl 3 rfl) ?_
              refine lv_if_ne (x := (bI y)) (tgt := 69) hx hb d_Md_begin_43 (by decide) (fun c43 => ?_) (fun c43 => ?_)
              · skip
                replace c43 : y = true := bI_1 c43
                refine lv_iconst (v := 1) hx hb d_Md_begin_69 (by decide) ?_
                refine lv_goto (tgt := 74) hx hb d_Md_begin_70 (by decide) ?_
                refine lv_istore_n (lv' := [(3, .int 1), (0, .ref x), (1, .int (nI a)), (2, .int (nI b)), (4, .int (nI (4 * a + j))), (5, .int (nI (4 * b + k)))]) hx hb d_Md_begin_74 rfl hl (by decide) rfl (fun ls hl => ?_)
                refine lv_iinc (v := (nI (4 * b + k + 1))) (lv' := [(5, .int (nI (4 * b + k + 1))), (3, .int 1), (0, .ref x), (1, .int (nI a)), (2, .int (nI b)), (4, .int (nI (4 * a + j)))]) hx hb d_Md_begin_75 hl (k := 5) rfl (nI_1 (4 * b + k)) (by decide) rfl (fun ls hl => ?_)
                refine lv_goto (tgt := 27) hx hb d_Md_begin_78 (by decide) ?_
                exact ih27  true (k + 1) (by omega) (by omega) (by rw [anyTo, ← Bool.or_assoc, hy]; simp [begP, c43]) _ hS ls (lv_sub hl [2, 3, 4, 1, 5, 0] rfl)
              · skip
                replace c43 : y = false := bI_0 c43
                refine lv_aload_n hx hb d_Md_begin_46 rfl (lv_at hl 0 rfl) ?_
                refine hx_get (v := .ref (g 3)) hx hb htg iMd hown hK hI.1 rfl 6 (by decide) (htg _ (gw_mem (i := 1004) (by decide +kernel) rfl)) (fun _ h9 => h9) rfl d_Md_begin_47 ?_
                refine lv_bipush (v := 12) hx hb d_Md_begin_50 (by decide) ?_
                refine lv_iload hx hb d_Md_begin_52 (lv_at hl 4 rfl) ?_
                refine lv_imul (x := 12) (y := (nI (4 * a + j))) hx hb d_Md_begin_54 ?_
                refine lv_eqi (y := (nI (12 * (4 * a + j)))) (pk_mul 12 (4 * a + j)) ?_
                refine hx_iald hx hb hK 0 (hI.2 3 (by decide)) rfl (show vp_in (nI (12 * (4 * a + j))) 1152 from vp_in_nI (n := 12 * (4 * a + j)) (by omega) (by decide)) d_Md_begin_55 ?_
                refine lv_eqi (y := (f 3 (12 * (4 * a + j)))) (show f 3 (nI (12 * (4 * a + j))).toNatClampNeg = _ by rw [nI_clamp (by omega)]) ?_
                refine lv_aload_n hx hb d_Md_begin_56 rfl (lv_at hl 0 rfl) ?_
                refine hx_get (v := .ref (g 3)) hx hb htg iMd hown hK hI.1 rfl 6 (by decide) (htg _ (gw_mem (i := 1004) (by decide +kernel) rfl)) (fun _ h9 => h9) rfl d_Md_begin_57 ?_
                refine lv_bipush (v := 12) hx hb d_Md_begin_60 (by decide) ?_
                refine lv_iload hx hb d_Md_begin_62 (lv_at hl 5 rfl) ?_
                refine lv_imul (x := 12) (y := (nI (4 * b + k))) hx hb d_Md_begin_64 ?_
                refine lv_eqi (y := (nI (12 * (4 * b + k)))) (pk_mul 12 (4 * b + k)) ?_
                refine hx_iald hx hb hK 0 (hI.2 3 (by decide)) rfl (show vp_in (nI (12 * (4 * b + k))) 1152 from vp_in_nI (n := 12 * (4 * b + k)) (by omega) (by decide)) d_Md_begin_65 ?_
                refine lv_eqi (y := (f 3 (12 * (4 * b + k)))) (show f 3 (nI (12 * (4 * b + k))).toNatClampNeg = _ by rw [nI_clamp (by omega)]) ?_
                refine lv_icmp_ne (x := (f 3 (12 * (4 * a + j)))) (y := (f 3 (12 * (4 * b + k)))) (tgt := 73) hx hb d_Md_begin_66 (by decide) (fun c66 => ?_) (fun c66 => ?_)
                · skip
                  refine lv_iconst (v := 0) hx hb d_Md_begin_73 (by decide) ?_
                  refine lv_istore_n (lv' := [(3, .int 0), (0, .ref x), (1, .int (nI a)), (2, .int (nI b)), (4, .int (nI (4 * a + j))), (5, .int (nI (4 * b + k)))]) hx hb d_Md_begin_74 rfl hl (by decide) rfl (fun ls hl => ?_)
                  refine lv_iinc (v := (nI (4 * b + k + 1))) (lv' := [(5, .int (nI (4 * b + k + 1))), (3, .int 0), (0, .ref x), (1, .int (nI a)), (2, .int (nI b)), (4, .int (nI (4 * a + j)))]) hx hb d_Md_begin_75 hl (k := 5) rfl (nI_1 (4 * b + k)) (by decide) rfl (fun ls hl => ?_)
                  refine lv_goto (tgt := 27) hx hb d_Md_begin_78 (by decide) ?_
                  exact ih27  false (k + 1) (by omega) (by omega) (by rw [anyTo, ← Bool.or_assoc, hy]; simp [begP, c43, c66]) _ hS ls (lv_sub hl [2, 3, 4, 1, 5, 0] rfl)
                · skip
                  refine lv_iconst (v := 1) hx hb d_Md_begin_69 (by decide) ?_
                  refine lv_goto (tgt := 74) hx hb d_Md_begin_70 (by decide) ?_
                  refine lv_istore_n (lv' := [(3, .int 1), (0, .ref x), (1, .int (nI a)), (2, .int (nI b)), (4, .int (nI (4 * a + j))), (5, .int (nI (4 * b + k)))]) hx hb d_Md_begin_74 rfl hl (by decide) rfl (fun ls hl => ?_)
                  refine lv_iinc (v := (nI (4 * b + k + 1))) (lv' := [(5, .int (nI (4 * b + k + 1))), (3, .int 1), (0, .ref x), (1, .int (nI a)), (2, .int (nI b)), (4, .int (nI (4 * a + j)))]) hx hb d_Md_begin_75 hl (k := 5) rfl (nI_1 (4 * b + k)) (by decide) rfl (fun ls hl => ?_)
                  refine lv_goto (tgt := 27) hx hb d_Md_begin_78 (by decide) ?_
                  exact ih27  true (k + 1) (by omega) (by omega) (by rw [anyTo, ← Bool.or_assoc, hy]; simp [begP, c43, c66]) _ hS ls (lv_sub hl [2, 3, 4, 1, 5, 0] rfl)
        exact loop27 ((mn b - 0) + 1) z 0 (Nat.lt_succ_self _) (Nat.zero_le _) (by simp [anyTo]) _ hS ls (lv_sub hl [1, 2, 3, 4, 5, 0] rfl)
  exact loop7 ((mn a - 0) + 1) false 0 (Nat.lt_succ_self _) (Nat.zero_le _) rfl _ hS ls (lv_sub hl [2, 3, 4, 1, 0] rfl)
end
section
def cntTo (P : Nat → Bool) : Nat → Nat
  | 0 => 0
  | n + 1 => cntTo P n + (if P n = true then 1 else 0)
def sumTo (F : Nat → Nat) : Nat → Nat
  | 0 => 0
  | n + 1 => sumTo F n + F n
def cntP (f : Nat → Nat → Int32) (w : Int32) : Nat → Bool := fun k => if w = 4 then (!decide (f 9 k ≤ 0) && decide (k / 24 < k % 24)) else !decide (f 10 k = 0)
def cntX (f : Nat → Nat → Int32) (mn : Nat → Nat) (w : Int32) : Nat := if w = 2 then sumTo mn 24 else if w = 4 ∨ w = 5 then cntTo (cntP f w) 576 else 0
def cntR (f : Nat → Nat → Int32) (mn : Nat → Nat) (pn n mg : Nat) (w : Int32) : Int32 := if w = 0 then nI pn else if w = 1 then nI n else if w = 3 then nI mg else nI (cntX f mn w)
def setA (f : Nat → Nat → Int32) (k : Nat) (R : Nat → Int32) : Nat → Nat → Int32 := fun a => if a = k then R else f a
theorem setA_of {F f : Nat → Nat → Int32} {k : Nat} (h : ∀ a, a ≠ k → F a = f a) : F = setA f k (F k) := by
  funext a
  by_cases e : a = k
  · subst e; exact (if_pos rfl).symm
  · rw [h a e]; exact (if_neg e).symm
theorem setA_self (f : Nat → Nat → Int32) (k : Nat) (R : Nat → Int32) : setA f k R k = R := if_pos rfl
theorem setA_ne {f : Nat → Nat → Int32} {k a : Nat} {R : Nat → Int32} (h : a ≠ k) : setA f k R a = f a := if_neg h
theorem updA_setA {f : Nat → Nat → Int32} {k k' j : Nat} {R : Nat → Int32} {v : Int32} (h : k' ≠ k) : updA (setA f k R) k' j v = setA (updA f k' j v) k R := by
  funext a
  by_cases e : a = k'
  · subst e; rw [updA_self, setA_ne h, setA_ne h, updA_self]
  · rw [updA_ne e]
    by_cases e2 : a = k
    · subst e2; rw [setA_self, setA_self]
    · rw [setA_ne e2, setA_ne e2, updA_ne e]
theorem upd_lt {F G : Nat → Int32} {k : Nat} {v : Int32} (h : ∀ j, j < k → F j = G j) (hv : v = G k) : ∀ j, j < k + 1 → upd F k v j = G j := by
  intro j hj
  by_cases e : j = k
  · subst e; rw [upd_self]; exact hv
  · rw [upd_ne e]; exact h j (by omega)
theorem vp_z (b : Bool) : vp_nar .boolean (bI b) = bI b := by cases b <;> decide
def fwT (br : Nat → Bool) : Nat → Nat → Bool
  | 0 => br
  | z + 1 => fun k => fwT br z k || (fwT br z (24 * (k / 24) + z) && fwT br z (24 * z + k % 24))
theorem fw_c {br : Nat → Bool} {z a : Nat} (hz : z < 24) : fwT br (z + 1) (24 * a + z) = fwT br z (24 * a + z) := by
  show (fwT br z (24 * a + z) || (fwT br z (24 * ((24 * a + z) / 24) + z) && fwT br z (24 * z + (24 * a + z) % 24))) = _
  rw [show (24 * a + z) / 24 = a by omega]
  cases fwT br z (24 * a + z) <;> simp
theorem fw_r {br : Nat → Bool} {z b : Nat} (hb : b < 24) : fwT br (z + 1) (24 * z + b) = fwT br z (24 * z + b) := by
  show (fwT br z (24 * z + b) || (fwT br z (24 * ((24 * z + b) / 24) + z) && fwT br z (24 * z + (24 * z + b) % 24))) = _
  rw [show (24 * z + b) / 24 = z by omega, show (24 * z + b) % 24 = b by omega]
  cases fwT br z (24 * z + b) <;> cases fwT br z (24 * z + z) <;> rfl
def fwI (br : Nat → Bool) (z k : Nat) (R : Nat → Int32) : Prop := ∀ j, j < 576 → R j = bI (if j < k then fwT br (z + 1) j else fwT br z j)
theorem fwI.at0 {br : Nat → Bool} {z k : Nat} {R : Nat → Int32} (h : fwI br z k R) (hk : k < 576) : R k = bI (fwT br z k) := by rw [h k hk, if_neg (by omega)]
theorem fwI.atc {br : Nat → Bool} {z k a : Nat} {R : Nat → Int32} (h : fwI br z k R) (hz : z < 24) (ha : a < 24) : R (24 * a + z) = bI (fwT br z (24 * a + z)) := by
  rw [h _ (by omega)]
  by_cases e : 24 * a + z < k
  · rw [if_pos e, fw_c hz]
  · rw [if_neg e]
theorem fwI.atr {br : Nat → Bool} {z k b : Nat} {R : Nat → Int32} (h : fwI br z k R) (hz : z < 24) (hb : b < 24) : R (24 * z + b) = bI (fwT br z (24 * z + b)) := by
  rw [h _ (by omega)]
  by_cases e : 24 * z + b < k
  · rw [if_pos e, fw_r hb]
  · rw [if_neg e]
theorem fwI.step {br : Nat → Bool} {z k : Nat} {R : Nat → Int32} (h : fwI br z k R) : fwI br z (k + 1) (upd R k (bI (fwT br (z + 1) k))) := by
  intro j hj
  by_cases e : j = k
  · subst e; rw [upd_self, if_pos (by omega)]
  · rw [upd_ne e, h j hj]
    by_cases e2 : j < k
    · rw [if_pos e2, if_pos (by omega)]
    · rw [if_neg e2, if_neg (by omega)]
theorem fwI.next {br : Nat → Bool} {z : Nat} {R : Nat → Int32} (h : fwI br z 576 R) : fwI br (z + 1) 0 R := by
  intro j hj
  rw [h j hj, if_pos hj, if_neg (by omega)]
def y_Md_count : MethodName := ⟨"NameMergesModel", "count", "(I)I"⟩
abbrev w_Md_count : List Cond := Cond.code y_Md_count prog_7_method_35_code 5 (Option.some Jvm.ClassFile.FieldType.int) :: gw
theorem d_Md_count_0 : decode prog_7_method_35_code 0 = .ok (.aload_n 0, 1) := by decide +kernel
theorem d_Md_count_1 : decode prog_7_method_35_code 1 = .ok (.iload_n 1, 1) := by decide +kernel
theorem d_Md_count_2 : decode prog_7_method_35_code 2 = .ok (.ifCond .lt 12, 3) := by decide +kernel
theorem d_Md_count_5 : decode prog_7_method_35_code 5 = .ok (.iload_n 1, 1) := by decide +kernel
theorem d_Md_count_6 : decode prog_7_method_35_code 6 = .ok (.iconst 5, 1) := by decide +kernel
theorem d_Md_count_7 : decode prog_7_method_35_code 7 = .ok (.if_icmp .gt 7, 3) := by decide +kernel
theorem d_Md_count_10 : decode prog_7_method_35_code 10 = .ok (.iconst 1, 1) := by decide +kernel
theorem d_Md_count_11 : decode prog_7_method_35_code 11 = .ok (.goto 4, 3) := by decide +kernel
theorem d_Md_count_14 : decode prog_7_method_35_code 14 = .ok (.iconst 0, 1) := by decide +kernel
theorem d_Md_count_15 : decode prog_7_method_35_code 15 = .ok (.iconst 1, 1) := by decide +kernel
theorem d_Md_count_16 : decode prog_7_method_35_code 16 = .ok (.iconst 1, 1) := by decide +kernel
theorem d_Md_count_17 : decode prog_7_method_35_code 17 = .ok (.invokevirtual 88, 3) := by decide +kernel
theorem d_Md_count_20 : decode prog_7_method_35_code 20 = .ok (.ifCond .ne 5, 3) := by decide +kernel
theorem d_Md_count_23 : decode prog_7_method_35_code 23 = .ok (.iconst 0, 1) := by decide +kernel
theorem d_Md_count_24 : decode prog_7_method_35_code 24 = .ok (.ireturn, 1) := by decide +kernel
theorem d_Md_count_25 : decode prog_7_method_35_code 25 = .ok (.iconst 0, 1) := by decide +kernel
theorem d_Md_count_26 : decode prog_7_method_35_code 26 = .ok (.istore_n 2, 1) := by decide +kernel
theorem d_Md_count_27 : decode prog_7_method_35_code 27 = .ok (.iload_n 1, 1) := by decide +kernel
theorem d_Md_count_28 : decode prog_7_method_35_code 28 = .ok (.iconst 2, 1) := by decide +kernel
theorem d_Md_count_29 : decode prog_7_method_35_code 29 = .ok (.if_icmp .ne 29, 3) := by decide +kernel
theorem d_Md_count_32 : decode prog_7_method_35_code 32 = .ok (.iconst 0, 1) := by decide +kernel
theorem d_Md_count_33 : decode prog_7_method_35_code 33 = .ok (.istore_n 3, 1) := by decide +kernel
theorem d_Md_count_34 : decode prog_7_method_35_code 34 = .ok (.iload_n 3, 1) := by decide +kernel
theorem d_Md_count_35 : decode prog_7_method_35_code 35 = .ok (.bipush 24, 2) := by decide +kernel
theorem d_Md_count_37 : decode prog_7_method_35_code 37 = .ok (.if_icmp .ge 18, 3) := by decide +kernel
theorem d_Md_count_40 : decode prog_7_method_35_code 40 = .ok (.iload_n 2, 1) := by decide +kernel
theorem d_Md_count_41 : decode prog_7_method_35_code 41 = .ok (.aload_n 0, 1) := by decide +kernel
theorem d_Md_count_42 : decode prog_7_method_35_code 42 = .ok (.getfield 13, 3) := by decide +kernel
theorem d_Md_count_45 : decode prog_7_method_35_code 45 = .ok (.iload_n 3, 1) := by decide +kernel
theorem d_Md_count_46 : decode prog_7_method_35_code 46 = .ok (.iaload, 1) := by decide +kernel
theorem d_Md_count_47 : decode prog_7_method_35_code 47 = .ok (.iadd, 1) := by decide +kernel
theorem d_Md_count_48 : decode prog_7_method_35_code 48 = .ok (.istore_n 2, 1) := by decide +kernel
theorem d_Md_count_49 : decode prog_7_method_35_code 49 = .ok (.iinc 3 1, 3) := by decide +kernel
theorem d_Md_count_52 : decode prog_7_method_35_code 52 = .ok (.goto (-18), 3) := by decide +kernel
theorem d_Md_count_55 : decode prog_7_method_35_code 55 = .ok (.goto 82, 3) := by decide +kernel
theorem d_Md_count_58 : decode prog_7_method_35_code 58 = .ok (.iload_n 1, 1) := by decide +kernel
theorem d_Md_count_59 : decode prog_7_method_35_code 59 = .ok (.iconst 4, 1) := by decide +kernel
theorem d_Md_count_60 : decode prog_7_method_35_code 60 = .ok (.if_icmp .eq 8, 3) := by decide +kernel
theorem d_Md_count_63 : decode prog_7_method_35_code 63 = .ok (.iload_n 1, 1) := by decide +kernel
theorem d_Md_count_64 : decode prog_7_method_35_code 64 = .ok (.iconst 5, 1) := by decide +kernel
theorem d_Md_count_65 : decode prog_7_method_35_code 65 = .ok (.if_icmp .ne 72, 3) := by decide +kernel
theorem d_Md_count_68 : decode prog_7_method_35_code 68 = .ok (.iconst 0, 1) := by decide +kernel
theorem d_Md_count_69 : decode prog_7_method_35_code 69 = .ok (.istore_n 3, 1) := by decide +kernel
theorem d_Md_count_70 : decode prog_7_method_35_code 70 = .ok (.iload_n 3, 1) := by decide +kernel
theorem d_Md_count_71 : decode prog_7_method_35_code 71 = .ok (.sipush 576, 3) := by decide +kernel
theorem d_Md_count_74 : decode prog_7_method_35_code 74 = .ok (.if_icmp .ge 63, 3) := by decide +kernel
theorem d_Md_count_77 : decode prog_7_method_35_code 77 = .ok (.iload_n 1, 1) := by decide +kernel
theorem d_Md_count_78 : decode prog_7_method_35_code 78 = .ok (.iconst 4, 1) := by decide +kernel
theorem d_Md_count_79 : decode prog_7_method_35_code 79 = .ok (.if_icmp .ne 31, 3) := by decide +kernel
theorem d_Md_count_82 : decode prog_7_method_35_code 82 = .ok (.aload_n 0, 1) := by decide +kernel
theorem d_Md_count_83 : decode prog_7_method_35_code 83 = .ok (.getfield 37, 3) := by decide +kernel
theorem d_Md_count_86 : decode prog_7_method_35_code 86 = .ok (.iload_n 3, 1) := by decide +kernel
theorem d_Md_count_87 : decode prog_7_method_35_code 87 = .ok (.iaload, 1) := by decide +kernel
theorem d_Md_count_88 : decode prog_7_method_35_code 88 = .ok (.ifCond .le 18, 3) := by decide +kernel
theorem d_Md_count_91 : decode prog_7_method_35_code 91 = .ok (.iload_n 3, 1) := by decide +kernel
theorem d_Md_count_92 : decode prog_7_method_35_code 92 = .ok (.bipush 24, 2) := by decide +kernel
theorem d_Md_count_94 : decode prog_7_method_35_code 94 = .ok (.idiv, 1) := by decide +kernel
theorem d_Md_count_95 : decode prog_7_method_35_code 95 = .ok (.iload_n 3, 1) := by decide +kernel
theorem d_Md_count_96 : decode prog_7_method_35_code 96 = .ok (.bipush 24, 2) := by decide +kernel
theorem d_Md_count_98 : decode prog_7_method_35_code 98 = .ok (.irem, 1) := by decide +kernel
theorem d_Md_count_99 : decode prog_7_method_35_code 99 = .ok (.if_icmp .ge 7, 3) := by decide +kernel
theorem d_Md_count_102 : decode prog_7_method_35_code 102 = .ok (.iconst 1, 1) := by decide +kernel
theorem d_Md_count_103 : decode prog_7_method_35_code 103 = .ok (.goto 13, 3) := by decide +kernel
theorem d_Md_count_106 : decode prog_7_method_35_code 106 = .ok (.iconst 0, 1) := by decide +kernel
theorem d_Md_count_107 : decode prog_7_method_35_code 107 = .ok (.goto 9, 3) := by decide +kernel
theorem d_Md_count_110 : decode prog_7_method_35_code 110 = .ok (.aload_n 0, 1) := by decide +kernel
theorem d_Md_count_111 : decode prog_7_method_35_code 111 = .ok (.getfield 40, 3) := by decide +kernel
theorem d_Md_count_114 : decode prog_7_method_35_code 114 = .ok (.iload_n 3, 1) := by decide +kernel
theorem d_Md_count_115 : decode prog_7_method_35_code 115 = .ok (.baload, 1) := by decide +kernel
theorem d_Md_count_116 : decode prog_7_method_35_code 116 = .ok (.istore 4, 2) := by decide +kernel
theorem d_Md_count_118 : decode prog_7_method_35_code 118 = .ok (.iload 4, 2) := by decide +kernel
theorem d_Md_count_120 : decode prog_7_method_35_code 120 = .ok (.ifCond .eq 9, 3) := by decide +kernel
theorem d_Md_count_123 : decode prog_7_method_35_code 123 = .ok (.iload_n 2, 1) := by decide +kernel
theorem d_Md_count_124 : decode prog_7_method_35_code 124 = .ok (.iconst 1, 1) := by decide +kernel
theorem d_Md_count_125 : decode prog_7_method_35_code 125 = .ok (.iadd, 1) := by decide +kernel
theorem d_Md_count_126 : decode prog_7_method_35_code 126 = .ok (.goto 4, 3) := by decide +kernel
theorem d_Md_count_129 : decode prog_7_method_35_code 129 = .ok (.iload_n 2, 1) := by decide +kernel
theorem d_Md_count_130 : decode prog_7_method_35_code 130 = .ok (.istore_n 2, 1) := by decide +kernel
theorem d_Md_count_131 : decode prog_7_method_35_code 131 = .ok (.iinc 3 1, 3) := by decide +kernel
theorem d_Md_count_134 : decode prog_7_method_35_code 134 = .ok (.goto (-64), 3) := by decide +kernel
theorem d_Md_count_137 : decode prog_7_method_35_code 137 = .ok (.iload_n 1, 1) := by decide +kernel
theorem d_Md_count_138 : decode prog_7_method_35_code 138 = .ok (.ifCond .ne 10, 3) := by decide +kernel
theorem d_Md_count_141 : decode prog_7_method_35_code 141 = .ok (.aload_n 0, 1) := by decide +kernel
theorem d_Md_count_142 : decode prog_7_method_35_code 142 = .ok (.getfield 85, 3) := by decide +kernel
theorem d_Md_count_145 : decode prog_7_method_35_code 145 = .ok (.goto 28, 3) := by decide +kernel
theorem d_Md_count_148 : decode prog_7_method_35_code 148 = .ok (.iload_n 1, 1) := by decide +kernel
theorem d_Md_count_149 : decode prog_7_method_35_code 149 = .ok (.iconst 1, 1) := by decide +kernel
theorem d_Md_count_150 : decode prog_7_method_35_code 150 = .ok (.if_icmp .ne 10, 3) := by decide +kernel
theorem d_Md_count_153 : decode prog_7_method_35_code 153 = .ok (.aload_n 0, 1) := by decide +kernel
theorem d_Md_count_154 : decode prog_7_method_35_code 154 = .ok (.getfield 81, 3) := by decide +kernel
theorem d_Md_count_157 : decode prog_7_method_35_code 157 = .ok (.goto 16, 3) := by decide +kernel
theorem d_Md_count_160 : decode prog_7_method_35_code 160 = .ok (.iload_n 1, 1) := by decide +kernel
theorem d_Md_count_161 : decode prog_7_method_35_code 161 = .ok (.iconst 3, 1) := by decide +kernel
theorem d_Md_count_162 : decode prog_7_method_35_code 162 = .ok (.if_icmp .ne 10, 3) := by decide +kernel
theorem d_Md_count_165 : decode prog_7_method_35_code 165 = .ok (.aload_n 0, 1) := by decide +kernel
theorem d_Md_count_166 : decode prog_7_method_35_code 166 = .ok (.getfield 106, 3) := by decide +kernel
theorem d_Md_count_169 : decode prog_7_method_35_code 169 = .ok (.goto 4, 3) := by decide +kernel
theorem d_Md_count_172 : decode prog_7_method_35_code 172 = .ok (.iload_n 2, 1) := by decide +kernel
theorem d_Md_count_173 : decode prog_7_method_35_code 173 = .ok (.ireturn, 1) := by decide +kernel
set_option maxHeartbeats 4000000 in
set_option maxRecDepth 100000 in
theorem c_Md_count (l : Launch) (D : va_G) (cs : Nat → ClassId) (N0 : Nat) (H : Heap) (x : Nat) (g : Nat → Nat) (i : Nat → Int32) (f : Nat → Nat → Int32) (w : Int32) (hsep : md_sep N0 x g) (hI : md_I D cs H x g i f) (pn : Nat) (hpn : i 1 = nI pn) (hp12 : pn ≤ 12) (n : Nat) (hn : i 2 = nI n) (hn24 : n ≤ 24) (mn : Nat → Nat) (hm : ∀ a, a < 24 → f 1 a = nI (mn a) ∧ mn a ≤ 4) (mg : Nat) (hmg : i 3 = nI mg) : Met l y_Md_count w_Md_count ({ frames := 1, cells := 0, slots := 0, locals := 23 }) (hPre D cs N0 [.ref x, .int w] H) (hQi (fun r H' => if goB (!decide (w < 0) && !decide (5 < w)) true true = true then (md_I D cs H' x g (upd i 0 (goV (!decide (w < 0) && !decide (5 < w)) true true)) f ∧ r = cntR f mn pn n mg w) else (md_I D cs H' x g (upd i 0 (goV (!decide (w < 0) && !decide (5 < w)) true true)) f ∧ r = 0)) (md_A x g)) 0 0 (md_A x g) := by
  refine Met.ofW (cc := prog_7_method_35_code) (maxL := 5) (ret := (Option.some Jvm.ClassFile.FieldType.int)) (by decide) rfl ?_
  intro p e s m args below meth c s₁ B hml hv
  obtain ⟨rfl, rfl, hB⟩ := hv
  have hx := B.exec
  have hb := B.bytes
  have hr := B.returns
  have hts := atoms_spec (ws := w_Md_count) B.pre
  have htg : ∀ w ∈ gw, w.before _ s = true := fun w h => hts w (List.mem_cons_of_mem _ h)
  have hown : s.vm.findClass "NameMergesModel" = some m.cls := findClass_of_methodNamed B.named
  have hlocks := B.notSynchronized
  have hK := hB.1
  have hS : va_S (md_A x g) s.heap s.heap [] := va_S.rf
  obtain ⟨H, hH⟩ : ∃ z : Heap, z = s.heap := ⟨_, rfl⟩
  rw [← hH] at hI
  have hS : va_S (md_A x g) s.heap H [] := by rw [hH]; exact va_S.rf
  have hl := lv_entry ([.ref x, .int w]) (n := 5) (Nat.le_of_ble_eq_true rfl)
  rw [lg_entry_eq, ← hH]
  generalize (lg_sl ([.ref x, .int w]) ++ List.replicate (5 - (lg_sl ([.ref x, .int w])).length) Slot.unset).toArray = ls at hl ⊢
  have hl : lv_has ls 5 [(0, .ref x), (1, .int w)] := hl
  refine lv_aload_n hx hb d_Md_count_0 rfl (lv_at hl 0 rfl) ?_
  refine lv_iload_n hx hb d_Md_count_1 rfl (lv_at hl 1 rfl) ?_
  refine lv_if_lt (x := w) (tgt := 14) hx hb d_Md_count_2 (by decide) (fun c2 => ?_) (fun c2 => ?_)
  · skip
    refine lv_iconst (v := 0) hx hb d_Md_count_14 (by decide) ?_
    refine lv_iconst (v := 1) hx hb d_Md_count_15 (by decide) ?_
    refine lv_iconst (v := 1) hx hb d_Md_count_16 (by decide) ?_
    refine h_calli (va_runV (As := [.int 0, .int 1, .int 1]) (rest := []) ⟨hx, hb, hml, hown, htg⟩ (c_Md_goes l D cs N0 H x g i f false true true hsep hI) (cwV 3 htg (gw_V (gw_mem (i := 1092) (by decide +kernel) rfl) (gw_mem (i := 1094) (by decide +kernel) rfl) (gw_mem (i := 18) (by decide +kernel) rfl) (gw_mem (i := 38) (by decide +kernel) rfl) (gw_mem (i := 1095) (by decide +kernel) rfl)) rfl rfl rfl (by decide +kernel) ⟨Nat.le_of_ble_eq_true rfl, Nat.le_of_ble_eq_true rfl⟩) ⟨hPre.blind, hx_recv hK (ci := 0) rfl hI.1, hPre.at hB hS hsep.A⟩ rfl rfl hl.1 rfl (lv_room (Nat.le_of_ble_eq_true rfl)) d_Md_count_17 ⟨Nat.zero_le _, Nat.zero_le _⟩) hS (fun _ h => h) (fun r17 H locs hp hz hk hS => ?_)
    obtain ⟨hI, er17⟩ := hp
    replace hI : md_I D cs H x g (upd i 0 1) f := hI
    refine lv_eqi (y := 0) er17 ?_
    refine lv_if_ne (x := 0) (tgt := 25) hx hb d_Md_count_20 (by decide) (fun c20 => ?_) (fun c20 => ?_)
    · exact absurd c20 (by decide)
    · skip
      refine lv_iconst (v := 0) hx hb d_Md_count_23 (by decide) ?_
      exact W.iret (v := 0) hx hb hr (fun t ht hW => ⟨⟨0, H, rfl, by dsimp only; have e0 : (!decide (w < 0) && !decide (5 < w)) = false := (by first | (simp [c2]; done) | (simp [c2]; omega) | omega | simp_all); rw [e0]; rw [if_neg (show ¬ goB false true true = true by simp [goB])]; exact ⟨hI, rfl⟩, ht⟩, hS.F ht⟩) hS.2.2 d_Md_count_24
  · skip
    refine lv_iload_n hx hb d_Md_count_5 rfl (lv_at hl 1 rfl) ?_
    refine lv_iconst (v := 5) hx hb d_Md_count_6 (by decide) ?_
    refine lv_icmp_gt (x := w) (y := 5) (tgt := 14) hx hb d_Md_count_7 (by decide) (fun c7 => ?_) (fun c7 => ?_)
    · skip
      refine lv_iconst (v := 0) hx hb d_Md_count_14 (by decide) ?_
      refine lv_iconst (v := 1) hx hb d_Md_count_15 (by decide) ?_
      refine lv_iconst (v := 1) hx hb d_Md_count_16 (by decide) ?_
      refine h_calli (va_runV (As := [.int 0, .int 1, .int 1]) (rest := []) ⟨hx, hb, hml, hown, htg⟩ (c_Md_goes l D cs N0 H x g i f false true true hsep hI) (cwV 3 htg (gw_V (gw_mem (i := 1092) (by decide +kernel) rfl) (gw_mem (i := 1094) (by decide +kernel) rfl) (gw_mem (i := 18) (by decide +kernel) rfl) (gw_mem (i := 38) (by decide +kernel) rfl) (gw_mem (i := 1095) (by decide +kernel) rfl)) rfl rfl rfl (by decide +kernel) ⟨Nat.le_of_ble_eq_true rfl, Nat.le_of_ble_eq_true rfl⟩) ⟨hPre.blind, hx_recv hK (ci := 0) rfl hI.1, hPre.at hB hS hsep.A⟩ rfl rfl hl.1 rfl (lv_room (Nat.le_of_ble_eq_true rfl)) d_Md_count_17 ⟨Nat.zero_le _, Nat.zero_le _⟩) hS (fun _ h => h) (fun r17 H locs hp hz hk hS => ?_)
      obtain ⟨hI, er17⟩ := hp
      replace hI : md_I D cs H x g (upd i 0 1) f := hI
      refine lv_eqi (y := 0) er17 ?_
      refine lv_if_ne (x := 0) (tgt := 25) hx hb d_Md_count_20 (by decide) (fun c20 => ?_) (fun c20 => ?_)
      · exact absurd c20 (by decide)
      · skip
        refine lv_iconst (v := 0) hx hb d_Md_count_23 (by decide) ?_
        exact W.iret (v := 0) hx hb hr (fun t ht hW => ⟨⟨0, H, rfl, by dsimp only; have e0 : (!decide (w < 0) && !decide (5 < w)) = false := (by first | (simp [c2, c7]; done) | (simp [c2, c7]; omega) | omega | simp_all); rw [e0]; rw [if_neg (show ¬ goB false true true = true by simp [goB])]; exact ⟨hI, rfl⟩, ht⟩, hS.F ht⟩) hS.2.2 d_Md_count_24
    · skip
      refine lv_iconst (v := 1) hx hb d_Md_count_10 (by decide) ?_
      refine lv_goto (tgt := 15) hx hb d_Md_count_11 (by decide) ?_
      refine lv_iconst (v := 1) hx hb d_Md_count_15 (by decide) ?_
      refine lv_iconst (v := 1) hx hb d_Md_count_16 (by decide) ?_
      refine h_calli (va_runV (As := [.int 1, .int 1, .int 1]) (rest := []) ⟨hx, hb, hml, hown, htg⟩ (c_Md_goes l D cs N0 H x g i f true true true hsep hI) (cwV 3 htg (gw_V (gw_mem (i := 1092) (by decide +kernel) rfl) (gw_mem (i := 1094) (by decide +kernel) rfl) (gw_mem (i := 18) (by decide +kernel) rfl) (gw_mem (i := 38) (by decide +kernel) rfl) (gw_mem (i := 1095) (by decide +kernel) rfl)) rfl rfl rfl (by decide +kernel) ⟨Nat.le_of_ble_eq_true rfl, Nat.le_of_ble_eq_true rfl⟩) ⟨hPre.blind, hx_recv hK (ci := 0) rfl hI.1, hPre.at hB hS hsep.A⟩ rfl rfl hl.1 rfl (lv_room (Nat.le_of_ble_eq_true rfl)) d_Md_count_17 ⟨Nat.zero_le _, Nat.zero_le _⟩) hS (fun _ h => h) (fun r17 H locs hp hz hk hS => ?_)
      obtain ⟨hI, er17⟩ := hp
      replace hI : md_I D cs H x g (upd i 0 0) f := hI
      refine lv_eqi (y := 1) er17 ?_
      refine lv_if_ne (x := 1) (tgt := 25) hx hb d_Md_count_20 (by decide) (fun c20 => ?_) (fun c20 => ?_)
      · skip
        refine lv_iconst (v := 0) hx hb d_Md_count_25 (by decide) ?_
        refine lv_istore_n (lv' := [(2, .int 0), (0, .ref x), (1, .int w)]) hx hb d_Md_count_26 rfl hl (by decide) rfl (fun ls hl => ?_)
        have join137 : ∀ (cN : Nat), (cntX f mn w = cN) → ∀ (locs : List Loc), va_S (md_A x g) s.heap H locs → ∀ (ls : Array Slot), lv_has ls 5 [(0, .ref x), (1, .int w), (2, .int (nI cN))] → W p l e (headSpec w_Md_count ({ frames := 1, cells := 0, slots := 0, locals := 23 })).room s m ([.ref x, .int w] : List Value).toArray below meth c H locs 0 0 (MQ below (hQi (fun r H' => if goB (!decide (w < 0) && !decide (5 < w)) true true = true then (md_I D cs H' x g (upd i 0 (goV (!decide (w < 0) && !decide (5 < w)) true true)) f ∧ r = cntR f mn pn n mg w) else (md_I D cs H' x g (upd i 0 (goV (!decide (w < 0) && !decide (5 < w)) true true)) f ∧ r = 0)) (md_A x g)) ([.ref x, .int w] : List Value).toArray s 0 0 (md_A x g)) (F0 m 137 ls []) := by
          intro cN hX locs hS ls hl
          refine lv_iload_n hx hb d_Md_count_137 rfl (lv_at hl 1 rfl) ?_
          refine lv_if_ne (x := w) (tgt := 148) hx hb d_Md_count_138 (by decide) (fun c138 => ?_) (fun c138 => ?_)
          · skip
            refine lv_iload_n hx hb d_Md_count_148 rfl (lv_at hl 1 rfl) ?_
            refine lv_iconst (v := 1) hx hb d_Md_count_149 (by decide) ?_
            refine lv_icmp_ne (x := w) (y := 1) (tgt := 160) hx hb d_Md_count_150 (by decide) (fun c150 => ?_) (fun c150 => ?_)
            · skip
              refine lv_iload_n hx hb d_Md_count_160 rfl (lv_at hl 1 rfl) ?_
              refine lv_iconst (v := 3) hx hb d_Md_count_161 (by decide) ?_
              refine lv_icmp_ne (x := w) (y := 3) (tgt := 172) hx hb d_Md_count_162 (by decide) (fun c162 => ?_) (fun c162 => ?_)
              · skip
                refine lv_iload_n hx hb d_Md_count_172 rfl (lv_at hl 2 rfl) ?_
                exact W.iret (v := (nI cN)) hx hb hr (fun t ht hW => ⟨⟨(nI cN), H, rfl, by dsimp only; have e0 : (!decide (w < 0) && !decide (5 < w)) = true := (by first | (simp [c2, c7, c138, c150, c162]; done) | (simp [c2, c7, c138, c150, c162]; omega) | omega | simp_all); rw [e0]; rw [if_pos (show goB true true true = true from rfl)]; exact ⟨hI, by simp [cntR, hX, c138, c150, c162]⟩, ht⟩, hS.F ht⟩) hS.2.2 d_Md_count_173
              · skip
                refine lv_aload_n hx hb d_Md_count_165 rfl (lv_at hl 0 rfl) ?_
                refine hx_get (v := .int (i 3)) hx hb htg iMd hown hK hI.1 rfl 16 (by decide) (htg _ (gw_mem (i := 1014) (by decide +kernel) rfl)) (fun _ h9 => h9) rfl d_Md_count_166 ?_
                refine lv_eqi (y := (nI mg)) hmg ?_
                refine lv_goto (tgt := 173) hx hb d_Md_count_169 (by decide) ?_
                exact W.iret (v := (nI mg)) hx hb hr (fun t ht hW => ⟨⟨(nI mg), H, rfl, by dsimp only; have e0 : (!decide (w < 0) && !decide (5 < w)) = true := (by first | (simp [c2, c7, c138, c150, c162]; done) | (simp [c2, c7, c138, c150, c162]; omega) | omega | simp_all); rw [e0]; rw [if_pos (show goB true true true = true from rfl)]; exact ⟨hI, by simp [cntR, hX, c138, c150, c162]⟩, ht⟩, hS.F ht⟩) hS.2.2 d_Md_count_173
            · skip
              refine lv_aload_n hx hb d_Md_count_153 rfl (lv_at hl 0 rfl) ?_
              refine hx_get (v := .int (i 2)) hx hb htg iMd hown hK hI.1 rfl 3 (by decide) (htg _ (gw_mem (i := 1001) (by decide +kernel) rfl)) (fun _ h9 => h9) rfl d_Md_count_154 ?_
              refine lv_eqi (y := (nI n)) hn ?_
              refine lv_goto (tgt := 173) hx hb d_Md_count_157 (by decide) ?_
              exact W.iret (v := (nI n)) hx hb hr (fun t ht hW => ⟨⟨(nI n), H, rfl, by dsimp only; have e0 : (!decide (w < 0) && !decide (5 < w)) = true := (by first | (simp [c2, c7, c138, c150]; done) | (simp [c2, c7, c138, c150]; omega) | omega | simp_all); rw [e0]; rw [if_pos (show goB true true true = true from rfl)]; exact ⟨hI, by simp [cntR, hX, c138, c150]⟩, ht⟩, hS.F ht⟩) hS.2.2 d_Md_count_173
          · skip
            refine lv_aload_n hx hb d_Md_count_141 rfl (lv_at hl 0 rfl) ?_
            refine hx_get (v := .int (i 1)) hx hb htg iMd hown hK hI.1 rfl 1 (by decide) (htg _ (gw_mem (i := 999) (by decide +kernel) rfl)) (fun _ h9 => h9) rfl d_Md_count_142 ?_
            refine lv_eqi (y := (nI pn)) hpn ?_
            refine lv_goto (tgt := 173) hx hb d_Md_count_145 (by decide) ?_
            exact W.iret (v := (nI pn)) hx hb hr (fun t ht hW => ⟨⟨(nI pn), H, rfl, by dsimp only; have e0 : (!decide (w < 0) && !decide (5 < w)) = true := (by first | (simp [c2, c7, c138]; done) | (simp [c2, c7, c138]; omega) | omega | simp_all); rw [e0]; rw [if_pos (show goB true true true = true from rfl)]; exact ⟨hI, by simp [cntR, hX, c138]⟩, ht⟩, hS.F ht⟩) hS.2.2 d_Md_count_173
        refine lv_iload_n hx hb d_Md_count_27 rfl (lv_at hl 2 rfl) ?_
        refine lv_iconst (v := 2) hx hb d_Md_count_28 (by decide) ?_
        refine lv_icmp_ne (x := w) (y := 2) (tgt := 58) hx hb d_Md_count_29 (by decide) (fun c29 => ?_) (fun c29 => ?_)
        · skip
          refine lv_iload_n hx hb d_Md_count_58 rfl (lv_at hl 2 rfl) ?_
          refine lv_iconst (v := 4) hx hb d_Md_count_59 (by decide) ?_
          refine lv_icmp_eq (x := w) (y := 4) (tgt := 68) hx hb d_Md_count_60 (by decide) (fun c60 => ?_) (fun c60 => ?_)
          · skip
            refine lv_iconst (v := 0) hx hb d_Md_count_68 (by decide) ?_
            refine lv_istore_n (lv' := [(3, .int 0), (2, .int 0), (0, .ref x), (1, .int w)]) hx hb d_Md_count_69 rfl hl (by decide) rfl (fun ls hl => ?_)
            have loop70 : ∀ (fuel : Nat) (cN : Nat) (k : Nat), 576 - k < fuel → (k ≤ 576) → (cntTo (cntP f w) k = cN) → ∀ (locs : List Loc), va_S (md_A x g) s.heap H locs → ∀ (ls : Array Slot), lv_has ls 5 [(0, .ref x), (1, .int w), (2, .int (nI cN)), (3, .int (nI k))] → W p l e (headSpec w_Md_count ({ frames := 1, cells := 0, slots := 0, locals := 23 })).room s m ([.ref x, .int w] : List Value).toArray below meth c H locs 0 0 (MQ below (hQi (fun r H' => if goB (!decide (w < 0) && !decide (5 < w)) true true = true then (md_I D cs H' x g (upd i 0 (goV (!decide (w < 0) && !decide (5 < w)) true true)) f ∧ r = cntR f mn pn n mg w) else (md_I D cs H' x g (upd i 0 (goV (!decide (w < 0) && !decide (5 < w)) true true)) f ∧ r = 0)) (md_A x g)) ([.ref x, .int w] : List Value).toArray s 0 0 (md_A x g)) (F0 m 70 ls []) := by
              intro fuel70
              induction fuel70 with
              | zero => intro cN k hn; exact absurd hn (Nat.not_lt_zero _)
              | succ fuel70 ih70 =>
                intro cN k hn70 hk hc locs hS ls hl
                refine lv_iload_n hx hb d_Md_count_70 rfl (lv_at hl 3 rfl) ?_
                refine lv_sipush (v := 576) hx hb d_Md_count_71 (by decide) ?_
                refine lv_icmp_ge (x := (nI k)) (y := 576) (tgt := 137) hx hb d_Md_count_74 (by decide) (fun c74 => ?_) (fun c74 => ?_)
                · skip
                  replace c74 : 576 ≤ k := (nI_leI (a := 576) (b := k) (by omega) (by omega)).mp c74
                  exact join137  cN  (by have e9 : k = 576 := (by omega); subst e9; rw [cntX, if_neg (by rw [c60]; decide), if_pos (Or.inl c60), hc]) _ hS ls (lv_sub hl [0, 1, 2] rfl)
                · skip
                  replace c74 : ¬ (576 ≤ k) := fun z9 => c74 ((nI_leI (a := 576) (b := k) (by omega) (by omega)).mpr z9)
                  refine lv_iload_n hx hb d_Md_count_77 rfl (lv_at hl 1 rfl) ?_
                  refine lv_iconst (v := 4) hx hb d_Md_count_78 (by decide) ?_
                  refine lv_icmp_ne (x := w) (y := 4) (tgt := 110) hx hb d_Md_count_79 (by decide) (fun c79 => ?_) (fun c79 => ?_)
                  · skip
                    refine lv_aload_n hx hb d_Md_count_110 rfl (lv_at hl 0 rfl) ?_
                    refine hx_get (v := .ref (g 10)) hx hb htg iMd hown hK hI.1 rfl 13 (by decide) (htg _ (gw_mem (i := 1011) (by decide +kernel) rfl)) (fun _ h9 => h9) rfl d_Md_count_111 ?_
                    refine lv_iload_n hx hb d_Md_count_114 rfl (lv_at hl 3 rfl) ?_
                    refine hx_zald hx hb hK 1 (hI.2 10 (by decide)) rfl (show vp_in (nI k) 576 from vp_in_nI (n := k) (by omega) (by decide)) d_Md_count_115 ?_
                    refine lv_eqi (y := (f 10 k)) (show f 10 (nI k).toNatClampNeg = _ by rw [nI_clamp (by omega)]) ?_
                    refine lv_istore (lv' := [(4, .int (f 10 k)), (0, .ref x), (1, .int w), (2, .int (nI cN)), (3, .int (nI k))]) hx hb d_Md_count_116 hl (by decide) rfl (fun ls hl => ?_)
                    refine lv_iload hx hb d_Md_count_118 (lv_at hl 0 rfl) ?_
                    refine lv_if_eq (x := (f 10 k)) (tgt := 129) hx hb d_Md_count_120 (by decide) (fun c120 => ?_) (fun c120 => ?_)
                    · skip
                      refine lv_iload_n hx hb d_Md_count_129 rfl (lv_at hl 3 rfl) ?_
                      refine lv_istore_n (lv' := [(2, .int (nI cN)), (4, .int (f 10 k)), (0, .ref x), (1, .int w), (3, .int (nI k))]) hx hb d_Md_count_130 rfl hl (by decide) rfl (fun ls hl => ?_)
                      refine lv_iinc (v := (nI (k + 1))) (lv' := [(3, .int (nI (k + 1))), (2, .int (nI cN)), (4, .int (f 10 k)), (0, .ref x), (1, .int w)]) hx hb d_Md_count_131 hl (k := 4) rfl (nI_1 k) (by decide) rfl (fun ls hl => ?_)
                      refine lv_goto (tgt := 70) hx hb d_Md_count_134 (by decide) ?_
                      exact ih70  cN (k + 1) (by omega) (by omega) (by rw [cntTo, hc]; simp [cntP, c79, c120]) _ hS ls (lv_sub hl [3, 4, 1, 0] rfl)
                    · skip
                      refine lv_iload_n hx hb d_Md_count_123 rfl (lv_at hl 3 rfl) ?_
                      refine lv_iconst (v := 1) hx hb d_Md_count_124 (by decide) ?_
                      refine lv_iadd (x := (nI cN)) (y := 1) hx hb d_Md_count_125 ?_
                      refine lv_eqi (y := (nI (cN + 1))) (nI_add cN 1) ?_
                      refine lv_goto (tgt := 130) hx hb d_Md_count_126 (by decide) ?_
                      refine lv_istore_n (lv' := [(2, .int (nI (cN + 1))), (4, .int (f 10 k)), (0, .ref x), (1, .int w), (3, .int (nI k))]) hx hb d_Md_count_130 rfl hl (by decide) rfl (fun ls hl => ?_)
                      refine lv_iinc (v := (nI (k + 1))) (lv' := [(3, .int (nI (k + 1))), (2, .int (nI (cN + 1))), (4, .int (f 10 k)), (0, .ref x), (1, .int w)]) hx hb d_Md_count_131 hl (k := 4) rfl (nI_1 k) (by decide) rfl (fun ls hl => ?_)
                      refine lv_goto (tgt := 70) hx hb d_Md_count_134 (by decide) ?_
                      exact ih70  (cN + 1) (k + 1) (by omega) (by omega) (by rw [cntTo, hc]; simp [cntP, c79, c120]) _ hS ls (lv_sub hl [3, 4, 1, 0] rfl)
                  · skip
                    refine lv_aload_n hx hb d_Md_count_82 rfl (lv_at hl 0 rfl) ?_
                    refine hx_get (v := .ref (g 9)) hx hb htg iMd hown hK hI.1 rfl 12 (by decide) (htg _ (gw_mem (i := 1010) (by decide +kernel) rfl)) (fun _ h9 => h9) rfl d_Md_count_83 ?_
                    refine lv_iload_n hx hb d_Md_count_86 rfl (lv_at hl 3 rfl) ?_
                    refine hx_iald hx hb hK 0 (hI.2 9 (by decide)) rfl (show vp_in (nI k) 576 from vp_in_nI (n := k) (by omega) (by decide)) d_Md_count_87 ?_
                    refine lv_eqi (y := (f 9 k)) (show f 9 (nI k).toNatClampNeg = _ by rw [nI_clamp (by omega)]) ?_
                    refine lv_if_le (x := (f 9 k)) (tgt := 106) hx hb d_Md_count_88 (by decide) (fun c88 => ?_) (fun c88 => ?_)
                    · skip
                      refine lv_iconst (v := 0) hx hb d_Md_count_106 (by decide) ?_
                      refine lv_goto (tgt := 116) hx hb d_Md_count_107 (by decide) ?_
                      refine lv_istore (lv' := [(4, .int 0), (0, .ref x), (1, .int w), (2, .int (nI cN)), (3, .int (nI k))]) hx hb d_Md_count_116 hl (by decide) rfl (fun ls hl => ?_)
                      refine lv_iload hx hb d_Md_count_118 (lv_at hl 0 rfl) ?_
                      refine lv_if_eq (x := 0) (tgt := 129) hx hb d_Md_count_120 (by decide) (fun c120 => ?_) (fun c120 => ?_)
                      · skip
                        refine lv_iload_n hx hb d_Md_count_129 rfl (lv_at hl 3 rfl) ?_
                        refine lv_istore_n (lv' := [(2, .int (nI cN)), (4, .int 0), (0, .ref x), (1, .int w), (3, .int (nI k))]) hx hb d_Md_count_130 rfl hl (by decide) rfl (fun ls hl => ?_)
                        refine lv_iinc (v := (nI (k + 1))) (lv' := [(3, .int (nI (k + 1))), (2, .int (nI cN)), (4, .int 0), (0, .ref x), (1, .int w)]) hx hb d_Md_count_131 hl (k := 4) rfl (nI_1 k) (by decide) rfl (fun ls hl => ?_)
                        refine lv_goto (tgt := 70) hx hb d_Md_count_134 (by decide) ?_
                        exact ih70  cN (k + 1) (by omega) (by omega) (by rw [cntTo, hc]; simp [cntP, c79, c88]) _ hS ls (lv_sub hl [3, 4, 1, 0] rfl)
                      · exact absurd c120 (by decide)
                    · skip
                      refine lv_iload_n hx hb d_Md_count_91 rfl (lv_at hl 3 rfl) ?_
                      refine lv_bipush (v := 24) hx hb d_Md_count_92 (by decide) ?_
                      refine lv_idiv (x := (nI k)) (y := 24) hx hb d_Md_count_94 (by decide) ?_
                      refine lv_eqi (y := (nI (k / 24))) (pk_div (a := k) (d := 24) (by omega) (by omega) (by omega)) ?_
                      refine lv_iload_n hx hb d_Md_count_95 rfl (lv_at hl 3 rfl) ?_
                      refine lv_bipush (v := 24) hx hb d_Md_count_96 (by decide) ?_
                      refine lv_irem (x := (nI k)) (y := 24) hx hb d_Md_count_98 (by decide) ?_
                      refine lv_eqi (y := (nI (k % 24))) (pk_rem (a := k) (d := 24) (by omega) (by omega) (by omega)) ?_
                      refine lv_icmp_ge (x := (nI (k / 24))) (y := (nI (k % 24))) (tgt := 106) hx hb d_Md_count_99 (by decide) (fun c99 => ?_) (fun c99 => ?_)
                      · skip
                        replace c99 : (k % 24) ≤ (k / 24) := (nI_leI (a := (k % 24)) (b := (k / 24)) (by omega) (by omega)).mp c99
                        refine lv_iconst (v := 0) hx hb d_Md_count_106 (by decide) ?_
                        refine lv_goto (tgt := 116) hx hb d_Md_count_107 (by decide) ?_
                        refine lv_istore (lv' := [(4, .int 0), (0, .ref x), (1, .int w), (2, .int (nI cN)), (3, .int (nI k))]) hx hb d_Md_count_116 hl (by decide) rfl (fun ls hl => ?_)
                        refine lv_iload hx hb d_Md_count_118 (lv_at hl 0 rfl) ?_
                        refine lv_if_eq (x := 0) (tgt := 129) hx hb d_Md_count_120 (by decide) (fun c120 => ?_) (fun c120 => ?_)
                        · skip
                          refine lv_iload_n hx hb d_Md_count_129 rfl (lv_at hl 3 rfl) ?_
                          refine lv_istore_n (lv' := [(2, .int (nI cN)), (4, .int 0), (0, .ref x), (1, .int w), (3, .int (nI k))]) hx hb d_Md_count_130 rfl hl (by decide) rfl (fun ls hl => ?_)
                          refine lv_iinc (v := (nI (k + 1))) (lv' := [(3, .int (nI (k + 1))), (2, .int (nI cN)), (4, .int 0), (0, .ref x), (1, .int w)]) hx hb d_Md_count_131 hl (k := 4) rfl (nI_1 k) (by decide) rfl (fun ls hl => ?_)
                          refine lv_goto (tgt := 70) hx hb d_Md_count_134 (by decide) ?_
                          exact ih70  cN (k + 1) (by omega) (by omega) (by rw [cntTo, hc]; simp [cntP, c79, c88, c99]) _ hS ls (lv_sub hl [3, 4, 1, 0] rfl)
                        · exact absurd c120 (by decide)
                      · skip
                        replace c99 : ¬ ((k % 24) ≤ (k / 24)) := fun z9 => c99 ((nI_leI (a := (k % 24)) (b := (k / 24)) (by omega) (by omega)).mpr z9)
                        refine lv_iconst (v := 1) hx hb d_Md_count_102 (by decide) ?_
                        refine lv_goto (tgt := 116) hx hb d_Md_count_103 (by decide) ?_
                        refine lv_istore (lv' := [(4, .int 1), (0, .ref x), (1, .int w), (2, .int (nI cN)), (3, .int (nI k))]) hx hb d_Md_count_116 hl (by decide) rfl (fun ls hl => ?_)
                        refine lv_iload hx hb d_Md_count_118 (lv_at hl 0 rfl) ?_
                        refine lv_if_eq (x := 1) (tgt := 129) hx hb d_Md_count_120 (by decide) (fun c120 => ?_) (fun c120 => ?_)
                        · exact absurd c120 (by decide)
                        · skip
                          refine lv_iload_n hx hb d_Md_count_123 rfl (lv_at hl 3 rfl) ?_
                          refine lv_iconst (v := 1) hx hb d_Md_count_124 (by decide) ?_
                          refine lv_iadd (x := (nI cN)) (y := 1) hx hb d_Md_count_125 ?_
                          refine lv_eqi (y := (nI (cN + 1))) (nI_add cN 1) ?_
                          refine lv_goto (tgt := 130) hx hb d_Md_count_126 (by decide) ?_
                          refine lv_istore_n (lv' := [(2, .int (nI (cN + 1))), (4, .int 1), (0, .ref x), (1, .int w), (3, .int (nI k))]) hx hb d_Md_count_130 rfl hl (by decide) rfl (fun ls hl => ?_)
                          refine lv_iinc (v := (nI (k + 1))) (lv' := [(3, .int (nI (k + 1))), (2, .int (nI (cN + 1))), (4, .int 1), (0, .ref x), (1, .int w)]) hx hb d_Md_count_131 hl (k := 4) rfl (nI_1 k) (by decide) rfl (fun ls hl => ?_)
                          refine lv_goto (tgt := 70) hx hb d_Md_count_134 (by decide) ?_
                          exact ih70  (cN + 1) (k + 1) (by omega) (by omega) (by rw [cntTo, hc]; simp [cntP, c79, c88, c99]) _ hS ls (lv_sub hl [3, 4, 1, 0] rfl)
            exact loop70 ((576 - 0) + 1) 0 0 (Nat.lt_succ_self _) (by decide) rfl _ hS ls (lv_sub hl [2, 3, 1, 0] rfl)
          · skip
            refine lv_iload_n hx hb d_Md_count_63 rfl (lv_at hl 2 rfl) ?_
            refine lv_iconst (v := 5) hx hb d_Md_count_64 (by decide) ?_
            refine lv_icmp_ne (x := w) (y := 5) (tgt := 137) hx hb d_Md_count_65 (by decide) (fun c65 => ?_) (fun c65 => ?_)
            · skip
              exact join137  0  (by simp [cntX, c29, c60, c65]) _ hS ls (lv_sub hl [1, 2, 0] rfl)
            · skip
              refine lv_iconst (v := 0) hx hb d_Md_count_68 (by decide) ?_
              refine lv_istore_n (lv' := [(3, .int 0), (2, .int 0), (0, .ref x), (1, .int w)]) hx hb d_Md_count_69 rfl hl (by decide) rfl (fun ls hl => ?_)
              have loop70 : ∀ (fuel : Nat) (cN : Nat) (k : Nat), 576 - k < fuel → (k ≤ 576) → (cntTo (cntP f w) k = cN) → ∀ (locs : List Loc), va_S (md_A x g) s.heap H locs → ∀ (ls : Array Slot), lv_has ls 5 [(0, .ref x), (1, .int w), (2, .int (nI cN)), (3, .int (nI k))] → W p l e (headSpec w_Md_count ({ frames := 1, cells := 0, slots := 0, locals := 23 })).room s m ([.ref x, .int w] : List Value).toArray below meth c H locs 0 0 (MQ below (hQi (fun r H' => if goB (!decide (w < 0) && !decide (5 < w)) true true = true then (md_I D cs H' x g (upd i 0 (goV (!decide (w < 0) && !decide (5 < w)) true true)) f ∧ r = cntR f mn pn n mg w) else (md_I D cs H' x g (upd i 0 (goV (!decide (w < 0) && !decide (5 < w)) true true)) f ∧ r = 0)) (md_A x g)) ([.ref x, .int w] : List Value).toArray s 0 0 (md_A x g)) (F0 m 70 ls []) := by
                intro fuel70
                induction fuel70 with
                | zero => intro cN k hn; exact absurd hn (Nat.not_lt_zero _)
                | succ fuel70 ih70 =>
                  intro cN k hn70 hk hc locs hS ls hl
                  refine lv_iload_n hx hb d_Md_count_70 rfl (lv_at hl 3 rfl) ?_
                  refine lv_sipush (v := 576) hx hb d_Md_count_71 (by decide) ?_
                  refine lv_icmp_ge (x := (nI k)) (y := 576) (tgt := 137) hx hb d_Md_count_74 (by decide) (fun c74 => ?_) (fun c74 => ?_)
                  · skip
                    replace c74 : 576 ≤ k := (nI_leI (a := 576) (b := k) (by omega) (by omega)).mp c74
                    exact join137  cN  (by have e9 : k = 576 := (by omega); subst e9; rw [cntX, if_neg (by rw [c65]; decide), if_pos (Or.inr c65), hc]) _ hS ls (lv_sub hl [0, 1, 2] rfl)
                  · skip
                    replace c74 : ¬ (576 ≤ k) := fun z9 => c74 ((nI_leI (a := 576) (b := k) (by omega) (by omega)).mpr z9)
                    refine lv_iload_n hx hb d_Md_count_77 rfl (lv_at hl 1 rfl) ?_
                    refine lv_iconst (v := 4) hx hb d_Md_count_78 (by decide) ?_
                    refine lv_icmp_ne (x := w) (y := 4) (tgt := 110) hx hb d_Md_count_79 (by decide) (fun c79 => ?_) (fun c79 => ?_)
                    · skip
                      refine lv_aload_n hx hb d_Md_count_110 rfl (lv_at hl 0 rfl) ?_
                      refine hx_get (v := .ref (g 10)) hx hb htg iMd hown hK hI.1 rfl 13 (by decide) (htg _ (gw_mem (i := 1011) (by decide +kernel) rfl)) (fun _ h9 => h9) rfl d_Md_count_111 ?_
                      refine lv_iload_n hx hb d_Md_count_114 rfl (lv_at hl 3 rfl) ?_
                      refine hx_zald hx hb hK 1 (hI.2 10 (by decide)) rfl (show vp_in (nI k) 576 from vp_in_nI (n := k) (by omega) (by decide)) d_Md_count_115 ?_
                      refine lv_eqi (y := (f 10 k)) (show f 10 (nI k).toNatClampNeg = _ by rw [nI_clamp (by omega)]) ?_
                      refine lv_istore (lv' := [(4, .int (f 10 k)), (0, .ref x), (1, .int w), (2, .int (nI cN)), (3, .int (nI k))]) hx hb d_Md_count_116 hl (by decide) rfl (fun ls hl => ?_)
                      refine lv_iload hx hb d_Md_count_118 (lv_at hl 0 rfl) ?_
                      refine lv_if_eq (x := (f 10 k)) (tgt := 129) hx hb d_Md_count_120 (by decide) (fun c120 => ?_) (fun c120 => ?_)
                      · skip
                        refine lv_iload_n hx hb d_Md_count_129 rfl (lv_at hl 3 rfl) ?_
                        refine lv_istore_n (lv' := [(2, .int (nI cN)), (4, .int (f 10 k)), (0, .ref x), (1, .int w), (3, .int (nI k))]) hx hb d_Md_count_130 rfl hl (by decide) rfl (fun ls hl => ?_)
                        refine lv_iinc (v := (nI (k + 1))) (lv' := [(3, .int (nI (k + 1))), (2, .int (nI cN)), (4, .int (f 10 k)), (0, .ref x), (1, .int w)]) hx hb d_Md_count_131 hl (k := 4) rfl (nI_1 k) (by decide) rfl (fun ls hl => ?_)
                        refine lv_goto (tgt := 70) hx hb d_Md_count_134 (by decide) ?_
                        exact ih70  cN (k + 1) (by omega) (by omega) (by rw [cntTo, hc]; simp [cntP, c79, c120]) _ hS ls (lv_sub hl [3, 4, 1, 0] rfl)
                      · skip
                        refine lv_iload_n hx hb d_Md_count_123 rfl (lv_at hl 3 rfl) ?_
                        refine lv_iconst (v := 1) hx hb d_Md_count_124 (by decide) ?_
                        refine lv_iadd (x := (nI cN)) (y := 1) hx hb d_Md_count_125 ?_
                        refine lv_eqi (y := (nI (cN + 1))) (nI_add cN 1) ?_
                        refine lv_goto (tgt := 130) hx hb d_Md_count_126 (by decide) ?_
                        refine lv_istore_n (lv' := [(2, .int (nI (cN + 1))), (4, .int (f 10 k)), (0, .ref x), (1, .int w), (3, .int (nI k))]) hx hb d_Md_count_130 rfl hl (by decide) rfl (fun ls hl => ?_)
                        refine lv_iinc (v := (nI (k + 1))) (lv' := [(3, .int (nI (k + 1))), (2, .int (nI (cN + 1))), (4, .int (f 10 k)), (0, .ref x), (1, .int w)]) hx hb d_Md_count_131 hl (k := 4) rfl (nI_1 k) (by decide) rfl (fun ls hl => ?_)
                        refine lv_goto (tgt := 70) hx hb d_Md_count_134 (by decide) ?_
                        exact ih70  (cN + 1) (k + 1) (by omega) (by omega) (by rw [cntTo, hc]; simp [cntP, c79, c120]) _ hS ls (lv_sub hl [3, 4, 1, 0] rfl)
                    · skip
                      refine lv_aload_n hx hb d_Md_count_82 rfl (lv_at hl 0 rfl) ?_
                      refine hx_get (v := .ref (g 9)) hx hb htg iMd hown hK hI.1 rfl 12 (by decide) (htg _ (gw_mem (i := 1010) (by decide +kernel) rfl)) (fun _ h9 => h9) rfl d_Md_count_83 ?_
                      refine lv_iload_n hx hb d_Md_count_86 rfl (lv_at hl 3 rfl) ?_
                      refine hx_iald hx hb hK 0 (hI.2 9 (by decide)) rfl (show vp_in (nI k) 576 from vp_in_nI (n := k) (by omega) (by decide)) d_Md_count_87 ?_
                      refine lv_eqi (y := (f 9 k)) (show f 9 (nI k).toNatClampNeg = _ by rw [nI_clamp (by omega)]) ?_
                      refine lv_if_le (x := (f 9 k)) (tgt := 106) hx hb d_Md_count_88 (by decide) (fun c88 => ?_) (fun c88 => ?_)
                      · skip
                        refine lv_iconst (v := 0) hx hb d_Md_count_106 (by decide) ?_
                        refine lv_goto (tgt := 116) hx hb d_Md_count_107 (by decide) ?_
                        refine lv_istore (lv' := [(4, .int 0), (0, .ref x), (1, .int w), (2, .int (nI cN)), (3, .int (nI k))]) hx hb d_Md_count_116 hl (by decide) rfl (fun ls hl => ?_)
                        refine lv_iload hx hb d_Md_count_118 (lv_at hl 0 rfl) ?_
                        refine lv_if_eq (x := 0) (tgt := 129) hx hb d_Md_count_120 (by decide) (fun c120 => ?_) (fun c120 => ?_)
                        · skip
                          refine lv_iload_n hx hb d_Md_count_129 rfl (lv_at hl 3 rfl) ?_
                          refine lv_istore_n (lv' := [(2, .int (nI cN)), (4, .int 0), (0, .ref x), (1, .int w), (3, .int (nI k))]) hx hb d_Md_count_130 rfl hl (by decide) rfl (fun ls hl => ?_)
                          refine lv_iinc (v := (nI (k + 1))) (lv' := [(3, .int (nI (k + 1))), (2, .int (nI cN)), (4, .int 0), (0, .ref x), (1, .int w)]) hx hb d_Md_count_131 hl (k := 4) rfl (nI_1 k) (by decide) rfl (fun ls hl => ?_)
                          refine lv_goto (tgt := 70) hx hb d_Md_count_134 (by decide) ?_
                          exact ih70  cN (k + 1) (by omega) (by omega) (by rw [cntTo, hc]; simp [cntP, c79, c88]) _ hS ls (lv_sub hl [3, 4, 1, 0] rfl)
                        · exact absurd c120 (by decide)
                      · skip
                        refine lv_iload_n hx hb d_Md_count_91 rfl (lv_at hl 3 rfl) ?_
                        refine lv_bipush (v := 24) hx hb d_Md_count_92 (by decide) ?_
                        refine lv_idiv (x := (nI k)) (y := 24) hx hb d_Md_count_94 (by decide) ?_
                        refine lv_eqi (y := (nI (k / 24))) (pk_div (a := k) (d := 24) (by omega) (by omega) (by omega)) ?_
                        refine lv_iload_n hx hb d_Md_count_95 rfl (lv_at hl 3 rfl) ?_
                        refine lv_bipush (v := 24) hx hb d_Md_count_96 (by decide) ?_
                        refine lv_irem (x := (nI k)) (y := 24) hx hb d_Md_count_98 (by decide) ?_
                        refine lv_eqi (y := (nI (k % 24))) (pk_rem (a := k) (d := 24) (by omega) (by omega) (by omega)) ?_
                        refine lv_icmp_ge (x := (nI (k / 24))) (y := (nI (k % 24))) (tgt := 106) hx hb d_Md_count_99 (by decide) (fun c99 => ?_) (fun c99 => ?_)
                        · skip
                          replace c99 : (k % 24) ≤ (k / 24) := (nI_leI (a := (k % 24)) (b := (k / 24)) (by omega) (by omega)).mp c99
                          refine lv_iconst (v := 0) hx hb d_Md_count_106 (by decide) ?_
                          refine lv_goto (tgt := 116) hx hb d_Md_count_107 (by decide) ?_
                          refine lv_istore (lv' := [(4, .int 0), (0, .ref x), (1, .int w), (2, .int (nI cN)), (3, .int (nI k))]) hx hb d_Md_count_116 hl (by decide) rfl (fun ls hl => ?_)
                          refine lv_iload hx hb d_Md_count_118 (lv_at hl 0 rfl) ?_
                          refine lv_if_eq (x := 0) (tgt := 129) hx hb d_Md_count_120 (by decide) (fun c120 => ?_) (fun c120 => ?_)
                          · skip
                            refine lv_iload_n hx hb d_Md_count_129 rfl (lv_at hl 3 rfl) ?_
                            refine lv_istore_n (lv' := [(2, .int (nI cN)), (4, .int 0), (0, .ref x), (1, .int w), (3, .int (nI k))]) hx hb d_Md_count_130 rfl hl (by decide) rfl (fun ls hl => ?_)
                            refine lv_iinc (v := (nI (k + 1))) (lv' := [(3, .int (nI (k + 1))), (2, .int (nI cN)), (4, .int 0), (0, .ref x), (1, .int w)]) hx hb d_Md_count_131 hl (k := 4) rfl (nI_1 k) (by decide) rfl (fun ls hl => ?_)
                            refine lv_goto (tgt := 70) hx hb d_Md_count_134 (by decide) ?_
                            exact ih70  cN (k + 1) (by omega) (by omega) (by rw [cntTo, hc]; simp [cntP, c79, c88, c99]) _ hS ls (lv_sub hl [3, 4, 1, 0] rfl)
                          · exact absurd c120 (by decide)
                        · skip
                          replace c99 : ¬ ((k % 24) ≤ (k / 24)) := fun z9 => c99 ((nI_leI (a := (k % 24)) (b := (k / 24)) (by omega) (by omega)).mpr z9)
                          refine lv_iconst (v := 1) hx hb d_Md_count_102 (by decide) ?_
                          refine lv_goto (tgt := 116) hx hb d_Md_count_103 (by decide) ?_
                          refine lv_istore (lv' := [(4, .int 1), (0, .ref x), (1, .int w), (2, .int (nI cN)), (3, .int (nI k))]) hx hb d_Md_count_116 hl (by decide) rfl (fun ls hl => ?_)
                          refine lv_iload hx hb d_Md_count_118 (lv_at hl 0 rfl) ?_
                          refine lv_if_eq (x := 1) (tgt := 129) hx hb d_Md_count_120 (by decide) (fun c120 => ?_) (fun c120 => ?_)
                          · exact absurd c120 (by decide)
                          · skip
                            refine lv_iload_n hx hb d_Md_count_123 rfl (lv_at hl 3 rfl) ?_
                            refine lv_iconst (v := 1) hx hb d_Md_count_124 (by decide) ?_
                            refine lv_iadd (x := (nI cN)) (y := 1) hx hb d_Md_count_125 ?_
                            refine lv_eqi (y := (nI (cN + 1))) (nI_add cN 1) ?_
                            refine lv_goto (tgt := 130) hx hb d_Md_count_126 (by decide) ?_
                            refine lv_istore_n (lv' := [(2, .int (nI (cN + 1))), (4, .int 1), (0, .ref x), (1, .int w), (3, .int (nI k))]) hx hb d_Md_count_130 rfl hl (by decide) rfl (fun ls hl => ?_)
                            refine lv_iinc (v := (nI (k + 1))) (lv' := [(3, .int (nI (k + 1))), (2, .int (nI (cN + 1))), (4, .int 1), (0, .ref x), (1, .int w)]) hx hb d_Md_count_131 hl (k := 4) rfl (nI_1 k) (by decide) rfl (fun ls hl => ?_)
                            refine lv_goto (tgt := 70) hx hb d_Md_count_134 (by decide) ?_
                            exact ih70  (cN + 1) (k + 1) (by omega) (by omega) (by rw [cntTo, hc]; simp [cntP, c79, c88, c99]) _ hS ls (lv_sub hl [3, 4, 1, 0] rfl)
              exact loop70 ((576 - 0) + 1) 0 0 (Nat.lt_succ_self _) (by decide) rfl _ hS ls (lv_sub hl [2, 3, 1, 0] rfl)
        · skip
          refine lv_iconst (v := 0) hx hb d_Md_count_32 (by decide) ?_
          refine lv_istore_n (lv' := [(3, .int 0), (2, .int 0), (0, .ref x), (1, .int w)]) hx hb d_Md_count_33 rfl hl (by decide) rfl (fun ls hl => ?_)
          have loop34 : ∀ (fuel : Nat) (sN : Nat) (k : Nat), 24 - k < fuel → (k ≤ 24) → (sumTo mn k = sN) → ∀ (locs : List Loc), va_S (md_A x g) s.heap H locs → ∀ (ls : Array Slot), lv_has ls 5 [(0, .ref x), (1, .int w), (2, .int (nI sN)), (3, .int (nI k))] → W p l e (headSpec w_Md_count ({ frames := 1, cells := 0, slots := 0, locals := 23 })).room s m ([.ref x, .int w] : List Value).toArray below meth c H locs 0 0 (MQ below (hQi (fun r H' => if goB (!decide (w < 0) && !decide (5 < w)) true true = true then (md_I D cs H' x g (upd i 0 (goV (!decide (w < 0) && !decide (5 < w)) true true)) f ∧ r = cntR f mn pn n mg w) else (md_I D cs H' x g (upd i 0 (goV (!decide (w < 0) && !decide (5 < w)) true true)) f ∧ r = 0)) (md_A x g)) ([.ref x, .int w] : List Value).toArray s 0 0 (md_A x g)) (F0 m 34 ls []) := by
            intro fuel34
            induction fuel34 with
            | zero => intro sN k hn; exact absurd hn (Nat.not_lt_zero _)
            | succ fuel34 ih34 =>
              intro sN k hn34 hk hc locs hS ls hl
              refine lv_iload_n hx hb d_Md_count_34 rfl (lv_at hl 3 rfl) ?_
              refine lv_bipush (v := 24) hx hb d_Md_count_35 (by decide) ?_
              refine lv_icmp_ge (x := (nI k)) (y := 24) (tgt := 55) hx hb d_Md_count_37 (by decide) (fun c37 => ?_) (fun c37 => ?_)
              · skip
                replace c37 : 24 ≤ k := (nI_leI (a := 24) (b := k) (by omega) (by omega)).mp c37
                refine lv_goto (tgt := 137) hx hb d_Md_count_55 (by decide) ?_
                exact join137  sN  (by have e9 : k = 24 := (by omega); subst e9; simp [cntX, c29, hc]) _ hS ls (lv_sub hl [0, 1, 2] rfl)
              · skip
                replace c37 : ¬ (24 ≤ k) := fun z9 => c37 ((nI_leI (a := 24) (b := k) (by omega) (by omega)).mpr z9)
                refine lv_iload_n hx hb d_Md_count_40 rfl (lv_at hl 2 rfl) ?_
                refine lv_aload_n hx hb d_Md_count_41 rfl (lv_at hl 0 rfl) ?_
                refine hx_get (v := .ref (g 1)) hx hb htg iMd hown hK hI.1 rfl 4 (by decide) (htg _ (gw_mem (i := 1002) (by decide +kernel) rfl)) (fun _ h9 => h9) rfl d_Md_count_42 ?_
                refine lv_iload_n hx hb d_Md_count_45 rfl (lv_at hl 3 rfl) ?_
                refine hx_iald hx hb hK 0 (hI.2 1 (by decide)) rfl (show vp_in (nI k) 24 from vp_in_nI (n := k) (by omega) (by decide)) d_Md_count_46 ?_
                refine lv_eqi (y := (f 1 k)) (show f 1 (nI k).toNatClampNeg = _ by rw [nI_clamp (by omega)]) ?_
                refine lv_eqi (y := (nI (mn k))) (hm k (by omega)).1 ?_
                refine lv_iadd (x := (nI sN)) (y := (nI (mn k))) hx hb d_Md_count_47 ?_
                refine lv_eqi (y := (nI (sN + mn k))) (nI_add sN (mn k)) ?_
                refine lv_istore_n (lv' := [(2, .int (nI (sN + mn k))), (0, .ref x), (1, .int w), (3, .int (nI k))]) hx hb d_Md_count_48 rfl hl (by decide) rfl (fun ls hl => ?_)
                refine lv_iinc (v := (nI (k + 1))) (lv' := [(3, .int (nI (k + 1))), (2, .int (nI (sN + mn k))), (0, .ref x), (1, .int w)]) hx hb d_Md_count_49 hl (k := 3) rfl (nI_1 k) (by decide) rfl (fun ls hl => ?_)
                refine lv_goto (tgt := 34) hx hb d_Md_count_52 (by decide) ?_
                exact ih34  (sN + mn k) (k + 1) (by omega) (by omega) (by rw [sumTo, hc]) _ hS ls (lv_sub hl [2, 3, 1, 0] rfl)
          exact loop34 ((24 - 0) + 1) 0 0 (Nat.lt_succ_self _) (by decide) rfl _ hS ls (lv_sub hl [2, 3, 1, 0] rfl)
      · exact absurd c20 (by decide)
def y_Md_close : MethodName := ⟨"NameMergesModel", "close", "()V"⟩
abbrev w_Md_close : List Cond := Cond.code y_Md_close prog_7_method_24_code 3 (Option.none : Option Jvm.ClassFile.FieldType) :: gw
theorem d_Md_close_0 : decode prog_7_method_24_code 0 = .ok (.iconst 0, 1) := by decide +kernel
theorem d_Md_close_1 : decode prog_7_method_24_code 1 = .ok (.istore_n 1, 1) := by decide +kernel
theorem d_Md_close_2 : decode prog_7_method_24_code 2 = .ok (.iload_n 1, 1) := by decide +kernel
theorem d_Md_close_3 : decode prog_7_method_24_code 3 = .ok (.sipush 576, 3) := by decide +kernel
theorem d_Md_close_6 : decode prog_7_method_24_code 6 = .ok (.if_icmp .ge 21, 3) := by decide +kernel
theorem d_Md_close_9 : decode prog_7_method_24_code 9 = .ok (.aload_n 0, 1) := by decide +kernel
theorem d_Md_close_10 : decode prog_7_method_24_code 10 = .ok (.getfield 44, 3) := by decide +kernel
theorem d_Md_close_13 : decode prog_7_method_24_code 13 = .ok (.iload_n 1, 1) := by decide +kernel
theorem d_Md_close_14 : decode prog_7_method_24_code 14 = .ok (.aload_n 0, 1) := by decide +kernel
theorem d_Md_close_15 : decode prog_7_method_24_code 15 = .ok (.getfield 40, 3) := by decide +kernel
theorem d_Md_close_18 : decode prog_7_method_24_code 18 = .ok (.iload_n 1, 1) := by decide +kernel
theorem d_Md_close_19 : decode prog_7_method_24_code 19 = .ok (.baload, 1) := by decide +kernel
theorem d_Md_close_20 : decode prog_7_method_24_code 20 = .ok (.bastore, 1) := by decide +kernel
theorem d_Md_close_21 : decode prog_7_method_24_code 21 = .ok (.iinc 1 1, 3) := by decide +kernel
theorem d_Md_close_24 : decode prog_7_method_24_code 24 = .ok (.goto (-22), 3) := by decide +kernel
theorem d_Md_close_27 : decode prog_7_method_24_code 27 = .ok (.iconst 0, 1) := by decide +kernel
theorem d_Md_close_28 : decode prog_7_method_24_code 28 = .ok (.istore_n 1, 1) := by decide +kernel
theorem d_Md_close_29 : decode prog_7_method_24_code 29 = .ok (.iload_n 1, 1) := by decide +kernel
theorem d_Md_close_30 : decode prog_7_method_24_code 30 = .ok (.bipush 24, 2) := by decide +kernel
theorem d_Md_close_32 : decode prog_7_method_24_code 32 = .ok (.if_icmp .ge 78, 3) := by decide +kernel
theorem d_Md_close_35 : decode prog_7_method_24_code 35 = .ok (.iconst 0, 1) := by decide +kernel
theorem d_Md_close_36 : decode prog_7_method_24_code 36 = .ok (.istore_n 2, 1) := by decide +kernel
theorem d_Md_close_37 : decode prog_7_method_24_code 37 = .ok (.iload_n 2, 1) := by decide +kernel
theorem d_Md_close_38 : decode prog_7_method_24_code 38 = .ok (.sipush 576, 3) := by decide +kernel
theorem d_Md_close_41 : decode prog_7_method_24_code 41 = .ok (.if_icmp .ge 63, 3) := by decide +kernel
theorem d_Md_close_44 : decode prog_7_method_24_code 44 = .ok (.aload_n 0, 1) := by decide +kernel
theorem d_Md_close_45 : decode prog_7_method_24_code 45 = .ok (.getfield 44, 3) := by decide +kernel
theorem d_Md_close_48 : decode prog_7_method_24_code 48 = .ok (.iload_n 2, 1) := by decide +kernel
theorem d_Md_close_49 : decode prog_7_method_24_code 49 = .ok (.aload_n 0, 1) := by decide +kernel
theorem d_Md_close_50 : decode prog_7_method_24_code 50 = .ok (.getfield 44, 3) := by decide +kernel
theorem d_Md_close_53 : decode prog_7_method_24_code 53 = .ok (.iload_n 2, 1) := by decide +kernel
theorem d_Md_close_54 : decode prog_7_method_24_code 54 = .ok (.baload, 1) := by decide +kernel
theorem d_Md_close_55 : decode prog_7_method_24_code 55 = .ok (.ifCond .ne 37, 3) := by decide +kernel
theorem d_Md_close_58 : decode prog_7_method_24_code 58 = .ok (.aload_n 0, 1) := by decide +kernel
theorem d_Md_close_59 : decode prog_7_method_24_code 59 = .ok (.getfield 44, 3) := by decide +kernel
theorem d_Md_close_62 : decode prog_7_method_24_code 62 = .ok (.bipush 24, 2) := by decide +kernel
theorem d_Md_close_64 : decode prog_7_method_24_code 64 = .ok (.iload_n 2, 1) := by decide +kernel
theorem d_Md_close_65 : decode prog_7_method_24_code 65 = .ok (.bipush 24, 2) := by decide +kernel
theorem d_Md_close_67 : decode prog_7_method_24_code 67 = .ok (.idiv, 1) := by decide +kernel
theorem d_Md_close_68 : decode prog_7_method_24_code 68 = .ok (.imul, 1) := by decide +kernel
theorem d_Md_close_69 : decode prog_7_method_24_code 69 = .ok (.iload_n 1, 1) := by decide +kernel
theorem d_Md_close_70 : decode prog_7_method_24_code 70 = .ok (.iadd, 1) := by decide +kernel
theorem d_Md_close_71 : decode prog_7_method_24_code 71 = .ok (.baload, 1) := by decide +kernel
theorem d_Md_close_72 : decode prog_7_method_24_code 72 = .ok (.ifCond .eq 24, 3) := by decide +kernel
theorem d_Md_close_75 : decode prog_7_method_24_code 75 = .ok (.aload_n 0, 1) := by decide +kernel
theorem d_Md_close_76 : decode prog_7_method_24_code 76 = .ok (.getfield 44, 3) := by decide +kernel
theorem d_Md_close_79 : decode prog_7_method_24_code 79 = .ok (.bipush 24, 2) := by decide +kernel
theorem d_Md_close_81 : decode prog_7_method_24_code 81 = .ok (.iload_n 1, 1) := by decide +kernel
theorem d_Md_close_82 : decode prog_7_method_24_code 82 = .ok (.imul, 1) := by decide +kernel
theorem d_Md_close_83 : decode prog_7_method_24_code 83 = .ok (.iload_n 2, 1) := by decide +kernel
theorem d_Md_close_84 : decode prog_7_method_24_code 84 = .ok (.bipush 24, 2) := by decide +kernel
theorem d_Md_close_86 : decode prog_7_method_24_code 86 = .ok (.irem, 1) := by decide +kernel
theorem d_Md_close_87 : decode prog_7_method_24_code 87 = .ok (.iadd, 1) := by decide +kernel
theorem d_Md_close_88 : decode prog_7_method_24_code 88 = .ok (.baload, 1) := by decide +kernel
theorem d_Md_close_89 : decode prog_7_method_24_code 89 = .ok (.ifCond .eq 7, 3) := by decide +kernel
theorem d_Md_close_92 : decode prog_7_method_24_code 92 = .ok (.iconst 1, 1) := by decide +kernel
theorem d_Md_close_93 : decode prog_7_method_24_code 93 = .ok (.goto 4, 3) := by decide +kernel
theorem d_Md_close_96 : decode prog_7_method_24_code 96 = .ok (.iconst 0, 1) := by decide +kernel
theorem d_Md_close_97 : decode prog_7_method_24_code 97 = .ok (.bastore, 1) := by decide +kernel
theorem d_Md_close_98 : decode prog_7_method_24_code 98 = .ok (.iinc 2 1, 3) := by decide +kernel
theorem d_Md_close_101 : decode prog_7_method_24_code 101 = .ok (.goto (-64), 3) := by decide +kernel
theorem d_Md_close_104 : decode prog_7_method_24_code 104 = .ok (.iinc 1 1, 3) := by decide +kernel
theorem d_Md_close_107 : decode prog_7_method_24_code 107 = .ok (.goto (-78), 3) := by decide +kernel
theorem d_Md_close_110 : decode prog_7_method_24_code 110 = .ok (.return_, 1) := by decide +kernel
set_option maxHeartbeats 4000000 in
set_option maxRecDepth 100000 in
theorem c_Md_close (l : Launch) (D : va_G) (cs : Nat → ClassId) (N0 : Nat) (H : Heap) (x : Nat) (g : Nat → Nat) (i : Nat → Int32) (f : Nat → Nat → Int32) (hsep : md_sep N0 x g) (hI : md_I D cs H x g i f) (br : Nat → Bool) (hbr : ∀ k, k < 576 → f 10 k = bI (br k)) : Met l y_Md_close w_Md_close ({ frames := 0, cells := 0, slots := 0, locals := 0 }) (hPre D cs N0 [.ref x] H) (hQv (fun H' => ∃ R : Nat → Int32, md_I D cs H' x g i (setA f 11 R) ∧ ∀ j, j < 576 → R j = bI (fwT br 24 j)) (md_A x g)) 0 0 (md_A x g) := by
  refine Met.ofW (cc := prog_7_method_24_code) (maxL := 3) (ret := (Option.none : Option Jvm.ClassFile.FieldType)) (by decide) rfl ?_
  intro p e s m args below meth c s₁ B hml hv
  obtain ⟨rfl, rfl, hB⟩ := hv
  have hx := B.exec
  have hb := B.bytes
  have hr := B.returns
  have hts := atoms_spec (ws := w_Md_close) B.pre
  have htg : ∀ w ∈ gw, w.before _ s = true := fun w h => hts w (List.mem_cons_of_mem _ h)
  have hown : s.vm.findClass "NameMergesModel" = some m.cls := findClass_of_methodNamed B.named
  have hlocks := B.notSynchronized
  have hK := hB.1
  have hS : va_S (md_A x g) s.heap s.heap [] := va_S.rf
  obtain ⟨H, hH⟩ : ∃ z : Heap, z = s.heap := ⟨_, rfl⟩
  rw [← hH] at hI
  have hS : va_S (md_A x g) s.heap H [] := by rw [hH]; exact va_S.rf
  have hl := lv_entry ([.ref x]) (n := 3) (Nat.le_of_ble_eq_true rfl)
  rw [lg_entry_eq, ← hH]
  generalize (lg_sl ([.ref x]) ++ List.replicate (3 - (lg_sl ([.ref x])).length) Slot.unset).toArray = ls at hl ⊢
  have hl : lv_has ls 3 [(0, .ref x)] := hl
  refine lv_iconst (v := 0) hx hb d_Md_close_0 (by decide) ?_
  refine lv_istore_n (lv' := [(1, .int 0), (0, .ref x)]) hx hb d_Md_close_1 rfl hl (by decide) rfl (fun ls hl => ?_)
  have loop2 : ∀ (fuel : Nat) (F1 : Nat → Nat → Int32) (k : Nat), 576 - k < fuel → (k ≤ 576) → (∀ a, a ≠ 11 → F1 a = f a) → (∀ j, j < k → F1 11 j = bI (br j)) → ∀ (H : Heap) (locs : List Loc), md_I D cs H x g i F1 → va_S (md_A x g) s.heap H locs → ∀ (ls : Array Slot), lv_has ls 3 [(0, .ref x), (1, .int (nI k))] → W p l e (headSpec w_Md_close ({ frames := 0, cells := 0, slots := 0, locals := 0 })).room s m ([.ref x] : List Value).toArray below meth c H locs 0 0 (MQ below (hQv (fun H' => ∃ R : Nat → Int32, md_I D cs H' x g i (setA f 11 R) ∧ ∀ j, j < 576 → R j = bI (fwT br 24 j)) (md_A x g)) ([.ref x] : List Value).toArray s 0 0 (md_A x g)) (F0 m 2 ls []) := by
    intro fuel2
    induction fuel2 with
    | zero => intro F1 k hn; exact absurd hn (Nat.not_lt_zero _)
    | succ fuel2 ih2 =>
      intro F1 k hn2 hk hF hR H locs hI hS ls hl
      refine lv_iload_n hx hb d_Md_close_2 rfl (lv_at hl 1 rfl) ?_
      refine lv_sipush (v := 576) hx hb d_Md_close_3 (by decide) ?_
      refine lv_icmp_ge (x := (nI k)) (y := 576) (tgt := 27) hx hb d_Md_close_6 (by decide) (fun c6 => ?_) (fun c6 => ?_)
      · skip
        replace c6 : 576 ≤ k := (nI_leI (a := 576) (b := k) (by omega) (by omega)).mp c6
        refine lv_iconst (v := 0) hx hb d_Md_close_27 (by decide) ?_
        refine lv_istore_n (lv' := [(1, .int 0), (0, .ref x)]) hx hb d_Md_close_28 rfl hl (by decide) rfl (fun ls hl => ?_)
        have loop29 : ∀ (fuel : Nat) (F2 : Nat → Nat → Int32) (z : Nat), 24 - z < fuel → (z ≤ 24) → (∀ a, a ≠ 11 → F2 a = f a) → (fwI br z 0 (F2 11)) → ∀ (H : Heap) (locs : List Loc), md_I D cs H x g i F2 → va_S (md_A x g) s.heap H locs → ∀ (ls : Array Slot), lv_has ls 3 [(0, .ref x), (1, .int (nI z))] → W p l e (headSpec w_Md_close ({ frames := 0, cells := 0, slots := 0, locals := 0 })).room s m ([.ref x] : List Value).toArray below meth c H locs 0 0 (MQ below (hQv (fun H' => ∃ R : Nat → Int32, md_I D cs H' x g i (setA f 11 R) ∧ ∀ j, j < 576 → R j = bI (fwT br 24 j)) (md_A x g)) ([.ref x] : List Value).toArray s 0 0 (md_A x g)) (F0 m 29 ls []) := by
          intro fuel29
          induction fuel29 with
          | zero => intro F2 z hn; exact absurd hn (Nat.not_lt_zero _)
          | succ fuel29 ih29 =>
            intro F2 z hn29 hz9 hF2 hR2 H locs hI hS ls hl
            refine lv_iload_n hx hb d_Md_close_29 rfl (lv_at hl 1 rfl) ?_
            refine lv_bipush (v := 24) hx hb d_Md_close_30 (by decide) ?_
            refine lv_icmp_ge (x := (nI z)) (y := 24) (tgt := 110) hx hb d_Md_close_32 (by decide) (fun c32 => ?_) (fun c32 => ?_)
            · skip
              replace c32 : 24 ≤ z := (nI_leI (a := 24) (b := z) (by omega) (by omega)).mp c32
              exact W.vret hx hb hr (fun t ht hW => ⟨⟨H, rfl, ⟨F2 11, setA_of hF2 ▸ hI, fun j hj => by have e9 : z = 24 := (by omega); subst e9; rw [hR2 j hj, if_neg (Nat.not_lt_zero j)]⟩, ht⟩, hS.F ht⟩) hS.2.2 d_Md_close_110
            · skip
              replace c32 : ¬ (24 ≤ z) := fun z9 => c32 ((nI_leI (a := 24) (b := z) (by omega) (by omega)).mpr z9)
              refine lv_iconst (v := 0) hx hb d_Md_close_35 (by decide) ?_
              refine lv_istore_n (lv' := [(2, .int 0), (0, .ref x), (1, .int (nI z))]) hx hb d_Md_close_36 rfl hl (by decide) rfl (fun ls hl => ?_)
              have loop37 : ∀ (fuel : Nat) (F3 : Nat → Nat → Int32) (k : Nat), 576 - k < fuel → (k ≤ 576) → (∀ a, a ≠ 11 → F3 a = f a) → (fwI br z k (F3 11)) → ∀ (H : Heap) (locs : List Loc), md_I D cs H x g i F3 → va_S (md_A x g) s.heap H locs → ∀ (ls : Array Slot), lv_has ls 3 [(0, .ref x), (1, .int (nI z)), (2, .int (nI k))] → W p l e (headSpec w_Md_close ({ frames := 0, cells := 0, slots := 0, locals := 0 })).room s m ([.ref x] : List Value).toArray below meth c H locs 0 0 (MQ below (hQv (fun H' => ∃ R : Nat → Int32, md_I D cs H' x g i (setA f 11 R) ∧ ∀ j, j < 576 → R j = bI (fwT br 24 j)) (md_A x g)) ([.ref x] : List Value).toArray s 0 0 (md_A x g)) (F0 m 37 ls []) := by
                intro fuel37
                induction fuel37 with
                | zero => intro F3 k hn; exact absurd hn (Nat.not_lt_zero _)
                | succ fuel37 ih37 =>
                  intro F3 k hn37 hk hF3 hR3 H locs hI hS ls hl
                  refine lv_iload_n hx hb d_Md_close_37 rfl (lv_at hl 2 rfl) ?_
                  refine lv_sipush (v := 576) hx hb d_Md_close_38 (by decide) ?_
                  refine lv_icmp_ge (x := (nI k)) (y := 576) (tgt := 104) hx hb d_Md_close_41 (by decide) (fun c41 => ?_) (fun c41 => ?_)
                  · skip
                    replace c41 : 576 ≤ k := (nI_leI (a := 576) (b := k) (by omega) (by omega)).mp c41
                    refine lv_iinc (v := (nI (z + 1))) (lv' := [(1, .int (nI (z + 1))), (0, .ref x), (2, .int (nI k))]) hx hb d_Md_close_104 hl (k := 1) rfl (nI_1 z) (by decide) rfl (fun ls hl => ?_)
                    refine lv_goto (tgt := 29) hx hb d_Md_close_107 (by decide) ?_
                    exact ih29  _ (z + 1) (by omega) (by omega) hF3 (by have e9 : k = 576 := (by omega); subst e9; exact hR3.next) _ _ hI hS ls (lv_sub hl [1, 0] rfl)
                  · skip
                    replace c41 : ¬ (576 ≤ k) := fun z9 => c41 ((nI_leI (a := 576) (b := k) (by omega) (by omega)).mpr z9)
                    refine lv_aload_n hx hb d_Md_close_44 rfl (lv_at hl 0 rfl) ?_
                    refine hx_get (v := .ref (g 11)) hx hb htg iMd hown hK hI.1 rfl 14 (by decide) (htg _ (gw_mem (i := 1012) (by decide +kernel) rfl)) (fun _ h9 => h9) rfl d_Md_close_45 ?_
                    refine lv_iload_n hx hb d_Md_close_48 rfl (lv_at hl 2 rfl) ?_
                    refine lv_aload_n hx hb d_Md_close_49 rfl (lv_at hl 0 rfl) ?_
                    refine hx_get (v := .ref (g 11)) hx hb htg iMd hown hK hI.1 rfl 14 (by decide) (htg _ (gw_mem (i := 1012) (by decide +kernel) rfl)) (fun _ h9 => h9) rfl d_Md_close_50 ?_
                    refine lv_iload_n hx hb d_Md_close_53 rfl (lv_at hl 2 rfl) ?_
                    refine hx_zald hx hb hK 1 (hI.2 11 (by decide)) rfl (show vp_in (nI k) 576 from vp_in_nI (n := k) (by omega) (by decide)) d_Md_close_54 ?_
                    refine lv_eqi (y := (F3 11 k)) (show F3 11 (nI k).toNatClampNeg = _ by rw [nI_clamp (by omega)]) ?_
                    refine lv_eqi (y := (bI (fwT br z k))) (hR3.at0 (by omega)) ?_
                    refine lv_if_ne (x := (bI (fwT br z k))) (tgt := 92) hx hb d_Md_close_55 (by decide) (fun c55 => ?_) (fun c55 => ?_)
                    · skip
                      replace c55 : (fwT br z k) = true := bI_1 c55
                      refine lv_iconst (v := 1) hx hb d_Md_close_92 (by decide) ?_
                      refine lv_goto (tgt := 97) hx hb d_Md_close_93 (by decide) ?_
                      refine hx_zast hx hb hK hS (Or.inr ⟨11, by decide, rfl⟩) 1 (hI.2 11 (by decide)) rfl (show vp_in (nI k) 576 from vp_in_nI (n := k) (by omega) (by decide)) d_Md_close_97 (fun H locs hat hz ho hS => ?_)
                      replace hI : md_I D cs H x g i (updA F3 11 k (bI (fwT br (z + 1) k))) := md_I.puta hI hsep (by decide) (by rw [show ((nI k) : Int32).toNatClampNeg = k from nI_clamp (n := k) (by omega), show vp_nar .boolean 1 = bI (fwT br (z + 1) k) by rw [show fwT br (z + 1) k = true by simp [fwT, c55]]; rfl] at hat; exact hat) ho
                      refine lv_iinc (v := (nI (k + 1))) (lv' := [(2, .int (nI (k + 1))), (0, .ref x), (1, .int (nI z))]) hx hb d_Md_close_98 hl (k := 2) rfl (nI_1 k) (by decide) rfl (fun ls hl => ?_)
                      refine lv_goto (tgt := 37) hx hb d_Md_close_101 (by decide) ?_
                      exact ih37  _ (k + 1) (by omega) (by omega) (fun a ha => (updA_ne ha).trans (hF3 a ha)) (by rw [updA_self]; exact hR3.step) _ _ hI hS ls (lv_sub hl [1, 2, 0] rfl)
                    · skip
                      replace c55 : (fwT br z k) = false := bI_0 c55
                      refine lv_aload_n hx hb d_Md_close_58 rfl (lv_at hl 0 rfl) ?_
                      refine hx_get (v := .ref (g 11)) hx hb htg iMd hown hK hI.1 rfl 14 (by decide) (htg _ (gw_mem (i := 1012) (by decide +kernel) rfl)) (fun _ h9 => h9) rfl d_Md_close_59 ?_
                      refine lv_bipush (v := 24) hx hb d_Md_close_62 (by decide) ?_
                      refine lv_iload_n hx hb d_Md_close_64 rfl (lv_at hl 2 rfl) ?_
                      refine lv_bipush (v := 24) hx hb d_Md_close_65 (by decide) ?_
                      refine lv_idiv (x := (nI k)) (y := 24) hx hb d_Md_close_67 (by decide) ?_
                      refine lv_eqi (y := (nI (k / 24))) (pk_div (a := k) (d := 24) (by omega) (by omega) (by omega)) ?_
                      refine lv_imul (x := 24) (y := (nI (k / 24))) hx hb d_Md_close_68 ?_
                      refine lv_eqi (y := (nI (24 * (k / 24)))) (pk_mul 24 (k / 24)) ?_
                      refine lv_iload_n hx hb d_Md_close_69 rfl (lv_at hl 1 rfl) ?_
                      refine lv_iadd (x := (nI (24 * (k / 24)))) (y := (nI z)) hx hb d_Md_close_70 ?_
                      refine lv_eqi (y := (nI (24 * (k / 24) + z))) (nI_add (24 * (k / 24)) z) ?_
                      refine hx_zald hx hb hK 1 (hI.2 11 (by decide)) rfl (show vp_in (nI (24 * (k / 24) + z)) 576 from vp_in_nI (n := 24 * (k / 24) + z) (by omega) (by decide)) d_Md_close_71 ?_
                      refine lv_eqi (y := (F3 11 (24 * (k / 24) + z))) (show F3 11 (nI (24 * (k / 24) + z)).toNatClampNeg = _ by rw [nI_clamp (by omega)]) ?_
                      refine lv_eqi (y := (bI (fwT br z (24 * (k / 24) + z)))) (hR3.atc (by omega) (by omega)) ?_
                      refine lv_if_eq (x := (bI (fwT br z (24 * (k / 24) + z)))) (tgt := 96) hx hb d_Md_close_72 (by decide) (fun c72 => ?_) (fun c72 => ?_)
                      · skip
                        replace c72 : (fwT br z (24 * (k / 24) + z)) = false := bI_0 c72
                        refine lv_iconst (v := 0) hx hb d_Md_close_96 (by decide) ?_
                        refine hx_zast hx hb hK hS (Or.inr ⟨11, by decide, rfl⟩) 1 (hI.2 11 (by decide)) rfl (show vp_in (nI k) 576 from vp_in_nI (n := k) (by omega) (by decide)) d_Md_close_97 (fun H locs hat hz ho hS => ?_)
                        replace hI : md_I D cs H x g i (updA F3 11 k (bI (fwT br (z + 1) k))) := md_I.puta hI hsep (by decide) (by rw [show ((nI k) : Int32).toNatClampNeg = k from nI_clamp (n := k) (by omega), show vp_nar .boolean 0 = bI (fwT br (z + 1) k) by rw [show fwT br (z + 1) k = false by simp [fwT, c55, c72]]; rfl] at hat; exact hat) ho
                        refine lv_iinc (v := (nI (k + 1))) (lv' := [(2, .int (nI (k + 1))), (0, .ref x), (1, .int (nI z))]) hx hb d_Md_close_98 hl (k := 2) rfl (nI_1 k) (by decide) rfl (fun ls hl => ?_)
                        refine lv_goto (tgt := 37) hx hb d_Md_close_101 (by decide) ?_
                        exact ih37  _ (k + 1) (by omega) (by omega) (fun a ha => (updA_ne ha).trans (hF3 a ha)) (by rw [updA_self]; exact hR3.step) _ _ hI hS ls (lv_sub hl [1, 2, 0] rfl)
                      · skip
                        replace c72 : (fwT br z (24 * (k / 24) + z)) = true := bI_1 c72
                        refine lv_aload_n hx hb d_Md_close_75 rfl (lv_at hl 0 rfl) ?_
                        refine hx_get (v := .ref (g 11)) hx hb htg iMd hown hK hI.1 rfl 14 (by decide) (htg _ (gw_mem (i := 1012) (by decide +kernel) rfl)) (fun _ h9 => h9) rfl d_Md_close_76 ?_
                        refine lv_bipush (v := 24) hx hb d_Md_close_79 (by decide) ?_
                        refine lv_iload_n hx hb d_Md_close_81 rfl (lv_at hl 1 rfl) ?_
                        refine lv_imul (x := 24) (y := (nI z)) hx hb d_Md_close_82 ?_
                        refine lv_eqi (y := (nI (24 * z))) (pk_mul 24 z) ?_
                        refine lv_iload_n hx hb d_Md_close_83 rfl (lv_at hl 2 rfl) ?_
                        refine lv_bipush (v := 24) hx hb d_Md_close_84 (by decide) ?_
                        refine lv_irem (x := (nI k)) (y := 24) hx hb d_Md_close_86 (by decide) ?_
                        refine lv_eqi (y := (nI (k % 24))) (pk_rem (a := k) (d := 24) (by omega) (by omega) (by omega)) ?_
                        refine lv_iadd (x := (nI (24 * z))) (y := (nI (k % 24))) hx hb d_Md_close_87 ?_
                        refine lv_eqi (y := (nI (24 * z + k % 24))) (nI_add (24 * z) (k % 24)) ?_
                        refine hx_zald hx hb hK 1 (hI.2 11 (by decide)) rfl (show vp_in (nI (24 * z + k % 24)) 576 from vp_in_nI (n := 24 * z + k % 24) (by omega) (by decide)) d_Md_close_88 ?_
                        refine lv_eqi (y := (F3 11 (24 * z + k % 24))) (show F3 11 (nI (24 * z + k % 24)).toNatClampNeg = _ by rw [nI_clamp (by omega)]) ?_
                        refine lv_eqi (y := (bI (fwT br z (24 * z + k % 24)))) (hR3.atr (by omega) (by omega)) ?_
                        refine lv_if_eq (x := (bI (fwT br z (24 * z + k % 24)))) (tgt := 96) hx hb d_Md_close_89 (by decide) (fun c89 => ?_) (fun c89 => ?_)
                        · skip
                          replace c89 : (fwT br z (24 * z + k % 24)) = false := bI_0 c89
                          refine lv_iconst (v := 0) hx hb d_Md_close_96 (by decide) ?_
                          refine hx_zast hx hb hK hS (Or.inr ⟨11, by decide, rfl⟩) 1 (hI.2 11 (by decide)) rfl (show vp_in (nI k) 576 from vp_in_nI (n := k) (by omega) (by decide)) d_Md_close_97 (fun H locs hat hz ho hS => ?_)
                          replace hI : md_I D cs H x g i (updA F3 11 k (bI (fwT br (z + 1) k))) := md_I.puta hI hsep (by decide) (by rw [show ((nI k) : Int32).toNatClampNeg = k from nI_clamp (n := k) (by omega), show vp_nar .boolean 0 = bI (fwT br (z + 1) k) by rw [show fwT br (z + 1) k = false by simp [fwT, c55, c72, c89]]; rfl] at hat; exact hat) ho
                          refine lv_iinc (v := (nI (k + 1))) (lv' := [(2, .int (nI (k + 1))), (0, .ref x), (1, .int (nI z))]) hx hb d_Md_close_98 hl (k := 2) rfl (nI_1 k) (by decide) rfl (fun ls hl => ?_)
                          refine lv_goto (tgt := 37) hx hb d_Md_close_101 (by decide) ?_
                          exact ih37  _ (k + 1) (by omega) (by omega) (fun a ha => (updA_ne ha).trans (hF3 a ha)) (by rw [updA_self]; exact hR3.step) _ _ hI hS ls (lv_sub hl [1, 2, 0] rfl)
                        · skip
                          replace c89 : (fwT br z (24 * z + k % 24)) = true := bI_1 c89
                          refine lv_iconst (v := 1) hx hb d_Md_close_92 (by decide) ?_
                          refine lv_goto (tgt := 97) hx hb d_Md_close_93 (by decide) ?_
                          refine hx_zast hx hb hK hS (Or.inr ⟨11, by decide, rfl⟩) 1 (hI.2 11 (by decide)) rfl (show vp_in (nI k) 576 from vp_in_nI (n := k) (by omega) (by decide)) d_Md_close_97 (fun H locs hat hz ho hS => ?_)
                          replace hI : md_I D cs H x g i (updA F3 11 k (bI (fwT br (z + 1) k))) := md_I.puta hI hsep (by decide) (by rw [show ((nI k) : Int32).toNatClampNeg = k from nI_clamp (n := k) (by omega), show vp_nar .boolean 1 = bI (fwT br (z + 1) k) by rw [show fwT br (z + 1) k = true by simp [fwT, c55, c72, c89]]; rfl] at hat; exact hat) ho
                          refine lv_iinc (v := (nI (k + 1))) (lv' := [(2, .int (nI (k + 1))), (0, .ref x), (1, .int (nI z))]) hx hb d_Md_close_98 hl (k := 2) rfl (nI_1 k) (by decide) rfl (fun ls hl => ?_)
                          refine lv_goto (tgt := 37) hx hb d_Md_close_101 (by decide) ?_
                          exact ih37  _ (k + 1) (by omega) (by omega) (fun a ha => (updA_ne ha).trans (hF3 a ha)) (by rw [updA_self]; exact hR3.step) _ _ hI hS ls (lv_sub hl [1, 2, 0] rfl)
              exact loop37 ((576 - 0) + 1) _ 0 (Nat.lt_succ_self _) (by decide) hF2 hR2 _ _ hI hS ls (lv_sub hl [1, 2, 0] rfl)
        exact loop29 ((24 - 0) + 1) _ 0 (Nat.lt_succ_self _) (by decide) hF (fun j hj => (hR j (by omega)).trans (by rw [if_neg (Nat.not_lt_zero j)]; rfl)) _ _ hI hS ls (lv_sub hl [1, 0] rfl)
      · skip
        replace c6 : ¬ (576 ≤ k) := fun z9 => c6 ((nI_leI (a := 576) (b := k) (by omega) (by omega)).mpr z9)
        refine lv_aload_n hx hb d_Md_close_9 rfl (lv_at hl 0 rfl) ?_
        refine hx_get (v := .ref (g 11)) hx hb htg iMd hown hK hI.1 rfl 14 (by decide) (htg _ (gw_mem (i := 1012) (by decide +kernel) rfl)) (fun _ h9 => h9) rfl d_Md_close_10 ?_
        refine lv_iload_n hx hb d_Md_close_13 rfl (lv_at hl 1 rfl) ?_
        refine lv_aload_n hx hb d_Md_close_14 rfl (lv_at hl 0 rfl) ?_
        refine hx_get (v := .ref (g 10)) hx hb htg iMd hown hK hI.1 rfl 13 (by decide) (htg _ (gw_mem (i := 1011) (by decide +kernel) rfl)) (fun _ h9 => h9) rfl d_Md_close_15 ?_
        refine lv_iload_n hx hb d_Md_close_18 rfl (lv_at hl 1 rfl) ?_
        refine hx_zald hx hb hK 1 (hI.2 10 (by decide)) rfl (show vp_in (nI k) 576 from vp_in_nI (n := k) (by omega) (by decide)) d_Md_close_19 ?_
        refine lv_eqi (y := (F1 10 k)) (show F1 10 (nI k).toNatClampNeg = _ by rw [nI_clamp (by omega)]) ?_
        refine lv_eqi (y := (bI (br k))) (by rw [hF 10 (by decide)]; exact hbr k (by omega)) ?_
        refine hx_zast hx hb hK hS (Or.inr ⟨11, by decide, rfl⟩) 1 (hI.2 11 (by decide)) rfl (show vp_in (nI k) 576 from vp_in_nI (n := k) (by omega) (by decide)) d_Md_close_20 (fun H locs hat hz ho hS => ?_)
        replace hI : md_I D cs H x g i (updA F1 11 k (bI (br k))) := md_I.puta hI hsep (by decide) (by rw [show ((nI k) : Int32).toNatClampNeg = k from nI_clamp (n := k) (by omega), vp_z] at hat; exact hat) ho
        refine lv_iinc (v := (nI (k + 1))) (lv' := [(1, .int (nI (k + 1))), (0, .ref x)]) hx hb d_Md_close_21 hl (k := 1) rfl (nI_1 k) (by decide) rfl (fun ls hl => ?_)
        refine lv_goto (tgt := 2) hx hb d_Md_close_24 (by decide) ?_
        exact ih2  _ (k + 1) (by omega) (by omega) (fun a ha => (updA_ne ha).trans (hF a ha)) (by rw [updA_self]; exact upd_lt (G := fun j => bI (br j)) hR rfl) _ _ hI hS ls (lv_sub hl [1, 0] rfl)
  exact loop2 ((576 - 0) + 1) f 0 (Nat.lt_succ_self _) (by decide) (fun _ _ => rfl) (fun j hj => absurd hj (Nat.not_lt_zero j)) _ _ hI hS ls (lv_sub hl [1, 0] rfl)
def y_Md_covers : MethodName := ⟨"NameMergesModel", "covers", "(II)Z"⟩
abbrev w_Md_covers : List Cond := Cond.code y_Md_covers prog_7_method_26_code 3 (Option.some Jvm.ClassFile.FieldType.boolean) :: gw
theorem d_Md_covers_0 : decode prog_7_method_26_code 0 = .ok (.aload_n 0, 1) := by decide +kernel
theorem d_Md_covers_1 : decode prog_7_method_26_code 1 = .ok (.aload_n 0, 1) := by decide +kernel
theorem d_Md_covers_2 : decode prog_7_method_26_code 2 = .ok (.iload_n 1, 1) := by decide +kernel
theorem d_Md_covers_3 : decode prog_7_method_26_code 3 = .ok (.invokevirtual 92, 3) := by decide +kernel
theorem d_Md_covers_6 : decode prog_7_method_26_code 6 = .ok (.ifCond .eq 15, 3) := by decide +kernel
theorem d_Md_covers_9 : decode prog_7_method_26_code 9 = .ok (.aload_n 0, 1) := by decide +kernel
theorem d_Md_covers_10 : decode prog_7_method_26_code 10 = .ok (.iload_n 2, 1) := by decide +kernel
theorem d_Md_covers_11 : decode prog_7_method_26_code 11 = .ok (.invokevirtual 92, 3) := by decide +kernel
theorem d_Md_covers_14 : decode prog_7_method_26_code 14 = .ok (.ifCond .eq 7, 3) := by decide +kernel
theorem d_Md_covers_17 : decode prog_7_method_26_code 17 = .ok (.iconst 1, 1) := by decide +kernel
theorem d_Md_covers_18 : decode prog_7_method_26_code 18 = .ok (.goto 4, 3) := by decide +kernel
theorem d_Md_covers_21 : decode prog_7_method_26_code 21 = .ok (.iconst 0, 1) := by decide +kernel
theorem d_Md_covers_22 : decode prog_7_method_26_code 22 = .ok (.iconst 1, 1) := by decide +kernel
theorem d_Md_covers_23 : decode prog_7_method_26_code 23 = .ok (.iconst 1, 1) := by decide +kernel
theorem d_Md_covers_24 : decode prog_7_method_26_code 24 = .ok (.invokevirtual 88, 3) := by decide +kernel
theorem d_Md_covers_27 : decode prog_7_method_26_code 27 = .ok (.ifCond .ne 5, 3) := by decide +kernel
theorem d_Md_covers_30 : decode prog_7_method_26_code 30 = .ok (.iconst 0, 1) := by decide +kernel
theorem d_Md_covers_31 : decode prog_7_method_26_code 31 = .ok (.ireturn, 1) := by decide +kernel
theorem d_Md_covers_32 : decode prog_7_method_26_code 32 = .ok (.aload_n 0, 1) := by decide +kernel
theorem d_Md_covers_33 : decode prog_7_method_26_code 33 = .ok (.invokevirtual 124, 3) := by decide +kernel
theorem d_Md_covers_36 : decode prog_7_method_26_code 36 = .ok (.aload_n 0, 1) := by decide +kernel
theorem d_Md_covers_37 : decode prog_7_method_26_code 37 = .ok (.getfield 44, 3) := by decide +kernel
theorem d_Md_covers_40 : decode prog_7_method_26_code 40 = .ok (.bipush 24, 2) := by decide +kernel
theorem d_Md_covers_42 : decode prog_7_method_26_code 42 = .ok (.iload_n 1, 1) := by decide +kernel
theorem d_Md_covers_43 : decode prog_7_method_26_code 43 = .ok (.imul, 1) := by decide +kernel
theorem d_Md_covers_44 : decode prog_7_method_26_code 44 = .ok (.iload_n 2, 1) := by decide +kernel
theorem d_Md_covers_45 : decode prog_7_method_26_code 45 = .ok (.iadd, 1) := by decide +kernel
theorem d_Md_covers_46 : decode prog_7_method_26_code 46 = .ok (.baload, 1) := by decide +kernel
theorem d_Md_covers_47 : decode prog_7_method_26_code 47 = .ok (.ireturn, 1) := by decide +kernel
set_option maxHeartbeats 4000000 in
set_option maxRecDepth 100000 in
theorem c_Md_covers (l : Launch) (D : va_G) (cs : Nat → ClassId) (N0 : Nat) (H : Heap) (x : Nat) (g : Nat → Nat) (i : Nat → Int32) (f : Nat → Nat → Int32) (qa qb : Int32) (hsep : md_sep N0 x g) (hI : md_I D cs H x g i f) (n : Nat) (hn : i 2 = nI n) (hn24 : n ≤ 24) (br : Nat → Bool) (hbr : ∀ k, k < 576 → f 10 k = bI (br k)) : Met l y_Md_covers w_Md_covers ({ frames := 1, cells := 0, slots := 0, locals := 23 }) (hPre D cs N0 [.ref x, .int qa, .int qb] H) (hQi (fun r H' => if goB (isN n qa && isN n qb) true true = true then (∃ R : Nat → Int32, md_I D cs H' x g (upd i 0 (goV (isN n qa && isN n qb) true true)) (setA f 11 R) ∧ r = bI (fwT br 24 (24 * tn qa + tn qb))) else (md_I D cs H' x g (upd i 0 (goV (isN n qa && isN n qb) true true)) f ∧ r = 0)) (md_A x g)) 0 0 (md_A x g) := by
  refine Met.ofW (cc := prog_7_method_26_code) (maxL := 3) (ret := (Option.some Jvm.ClassFile.FieldType.boolean)) (by decide) rfl ?_
  intro p e s m args below meth c s₁ B hml hv
  obtain ⟨rfl, rfl, hB⟩ := hv
  have hx := B.exec
  have hb := B.bytes
  have hr := B.returns
  have hts := atoms_spec (ws := w_Md_covers) B.pre
  have htg : ∀ w ∈ gw, w.before _ s = true := fun w h => hts w (List.mem_cons_of_mem _ h)
  have hown : s.vm.findClass "NameMergesModel" = some m.cls := findClass_of_methodNamed B.named
  have hlocks := B.notSynchronized
  have hK := hB.1
  have hS : va_S (md_A x g) s.heap s.heap [] := va_S.rf
  obtain ⟨H, hH⟩ : ∃ z : Heap, z = s.heap := ⟨_, rfl⟩
  rw [← hH] at hI
  have hS : va_S (md_A x g) s.heap H [] := by rw [hH]; exact va_S.rf
  have hl := lv_entry ([.ref x, .int qa, .int qb]) (n := 3) (Nat.le_of_ble_eq_true rfl)
  rw [lg_entry_eq, ← hH]
  generalize (lg_sl ([.ref x, .int qa, .int qb]) ++ List.replicate (3 - (lg_sl ([.ref x, .int qa, .int qb])).length) Slot.unset).toArray = ls at hl ⊢
  have hl : lv_has ls 3 [(0, .ref x), (1, .int qa), (2, .int qb)] := hl
  refine lv_aload_n hx hb d_Md_covers_0 rfl (lv_at hl 0 rfl) ?_
  refine lv_aload_n hx hb d_Md_covers_1 rfl (lv_at hl 0 rfl) ?_
  refine lv_iload_n hx hb d_Md_covers_2 rfl (lv_at hl 1 rfl) ?_
  refine h_calli (va_runV (As := [.int qa]) (rest := [.ref x]) ⟨hx, hb, hml, hown, htg⟩ (c_Md_isName l D cs N0 H x g i f qa hsep hI n hn) (cwV 1 htg (gw_V (gw_mem (i := 1108) (by decide +kernel) rfl) (gw_mem (i := 1110) (by decide +kernel) rfl) (gw_mem (i := 19) (by decide +kernel) rfl) (gw_mem (i := 38) (by decide +kernel) rfl) (gw_mem (i := 1111) (by decide +kernel) rfl)) rfl rfl rfl (by decide +kernel) ⟨Nat.le_of_ble_eq_true rfl, Nat.le_of_ble_eq_true rfl⟩) ⟨hPre.blind, hx_recv hK (ci := 0) rfl hI.1, hPre.at hB hS hsep.A⟩ rfl rfl hl.1 rfl (lv_room (Nat.le_of_ble_eq_true rfl)) d_Md_covers_3 ⟨Nat.zero_le _, Nat.zero_le _⟩) hS (fun _ h => h) (fun r3 H locs hp hz hk hS => ?_)
  obtain ⟨hI, er3⟩ := hp
  refine lv_eqi (y := (bI (isN n qa))) er3 ?_
  refine lv_if_eq (x := (bI (isN n qa))) (tgt := 21) hx hb d_Md_covers_6 (by decide) (fun c6 => ?_) (fun c6 => ?_)
  · skip
    replace c6 : (isN n qa) = false := bI_0 c6
    refine lv_iconst (v := 0) hx hb d_Md_covers_21 (by decide) ?_
    refine lv_iconst (v := 1) hx hb d_Md_covers_22 (by decide) ?_
    refine lv_iconst (v := 1) hx hb d_Md_covers_23 (by decide) ?_
    refine h_calli (va_runV (As := [.int 0, .int 1, .int 1]) (rest := []) ⟨hx, hb, hml, hown, htg⟩ (c_Md_goes l D cs N0 H x g i f false true true hsep hI) (cwV 3 htg (gw_V (gw_mem (i := 1092) (by decide +kernel) rfl) (gw_mem (i := 1094) (by decide +kernel) rfl) (gw_mem (i := 18) (by decide +kernel) rfl) (gw_mem (i := 38) (by decide +kernel) rfl) (gw_mem (i := 1095) (by decide +kernel) rfl)) rfl rfl rfl (by decide +kernel) ⟨Nat.le_of_ble_eq_true rfl, Nat.le_of_ble_eq_true rfl⟩) ⟨hPre.blind, hx_recv hK (ci := 0) rfl hI.1, hPre.at hB hS hsep.A⟩ rfl rfl hl.1 rfl (lv_room (Nat.le_of_ble_eq_true rfl)) d_Md_covers_24 ⟨Nat.zero_le _, Nat.zero_le _⟩) hS (fun _ h => h) (fun r24 H locs hp hz hk hS => ?_)
    obtain ⟨hI, er24⟩ := hp
    replace hI : md_I D cs H x g (upd i 0 1) f := hI
    refine lv_eqi (y := 0) er24 ?_
    refine lv_if_ne (x := 0) (tgt := 32) hx hb d_Md_covers_27 (by decide) (fun c27 => ?_) (fun c27 => ?_)
    · exact absurd c27 (by decide)
    · skip
      refine lv_iconst (v := 0) hx hb d_Md_covers_30 (by decide) ?_
      exact W.zret (v := 0) hx hb hr (by decide) (fun t ht hW => ⟨⟨0, H, rfl, by dsimp only; have e0 : (isN n qa && isN n qb) = false := (by first | (simp [c6]; done) | (simp [c6]; omega) | omega | simp_all); rw [e0]; rw [if_neg (show ¬ goB false true true = true by simp [goB])]; exact ⟨hI, rfl⟩, ht⟩, hS.F ht⟩) hS.2.2 d_Md_covers_31
  · skip
    replace c6 : (isN n qa) = true := bI_1 c6
    refine lv_aload_n hx hb d_Md_covers_9 rfl (lv_at hl 0 rfl) ?_
    refine lv_iload_n hx hb d_Md_covers_10 rfl (lv_at hl 2 rfl) ?_
    refine h_calli (va_runV (As := [.int qb]) (rest := [.ref x]) ⟨hx, hb, hml, hown, htg⟩ (c_Md_isName l D cs N0 H x g i f qb hsep hI n hn) (cwV 1 htg (gw_V (gw_mem (i := 1108) (by decide +kernel) rfl) (gw_mem (i := 1110) (by decide +kernel) rfl) (gw_mem (i := 19) (by decide +kernel) rfl) (gw_mem (i := 38) (by decide +kernel) rfl) (gw_mem (i := 1111) (by decide +kernel) rfl)) rfl rfl rfl (by decide +kernel) ⟨Nat.le_of_ble_eq_true rfl, Nat.le_of_ble_eq_true rfl⟩) ⟨hPre.blind, hx_recv hK (ci := 0) rfl hI.1, hPre.at hB hS hsep.A⟩ rfl rfl hl.1 rfl (lv_room (Nat.le_of_ble_eq_true rfl)) d_Md_covers_11 ⟨Nat.zero_le _, Nat.zero_le _⟩) hS (fun _ h => h) (fun r11 H locs hp hz hk hS => ?_)
    obtain ⟨hI, er11⟩ := hp
    refine lv_eqi (y := (bI (isN n qb))) er11 ?_
    refine lv_if_eq (x := (bI (isN n qb))) (tgt := 21) hx hb d_Md_covers_14 (by decide) (fun c14 => ?_) (fun c14 => ?_)
    · skip
      replace c14 : (isN n qb) = false := bI_0 c14
      refine lv_iconst (v := 0) hx hb d_Md_covers_21 (by decide) ?_
      refine lv_iconst (v := 1) hx hb d_Md_covers_22 (by decide) ?_
      refine lv_iconst (v := 1) hx hb d_Md_covers_23 (by decide) ?_
      refine h_calli (va_runV (As := [.int 0, .int 1, .int 1]) (rest := []) ⟨hx, hb, hml, hown, htg⟩ (c_Md_goes l D cs N0 H x g i f false true true hsep hI) (cwV 3 htg (gw_V (gw_mem (i := 1092) (by decide +kernel) rfl) (gw_mem (i := 1094) (by decide +kernel) rfl) (gw_mem (i := 18) (by decide +kernel) rfl) (gw_mem (i := 38) (by decide +kernel) rfl) (gw_mem (i := 1095) (by decide +kernel) rfl)) rfl rfl rfl (by decide +kernel) ⟨Nat.le_of_ble_eq_true rfl, Nat.le_of_ble_eq_true rfl⟩) ⟨hPre.blind, hx_recv hK (ci := 0) rfl hI.1, hPre.at hB hS hsep.A⟩ rfl rfl hl.1 rfl (lv_room (Nat.le_of_ble_eq_true rfl)) d_Md_covers_24 ⟨Nat.zero_le _, Nat.zero_le _⟩) hS (fun _ h => h) (fun r24 H locs hp hz hk hS => ?_)
      obtain ⟨hI, er24⟩ := hp
      replace hI : md_I D cs H x g (upd i 0 1) f := hI
      refine lv_eqi (y := 0) er24 ?_
      refine lv_if_ne (x := 0) (tgt := 32) hx hb d_Md_covers_27 (by decide) (fun c27 => ?_) (fun c27 => ?_)
      · exact absurd c27 (by decide)
      · skip
        refine lv_iconst (v := 0) hx hb d_Md_covers_30 (by decide) ?_
        exact W.zret (v := 0) hx hb hr (by decide) (fun t ht hW => ⟨⟨0, H, rfl, by dsimp only; have e0 : (isN n qa && isN n qb) = false := (by first | (simp [c6, c14]; done) | (simp [c6, c14]; omega) | omega | simp_all); rw [e0]; rw [if_neg (show ¬ goB false true true = true by simp [goB])]; exact ⟨hI, rfl⟩, ht⟩, hS.F ht⟩) hS.2.2 d_Md_covers_31
    · skip
      replace c14 : (isN n qb) = true := bI_1 c14
      refine lv_iconst (v := 1) hx hb d_Md_covers_17 (by decide) ?_
      refine lv_goto (tgt := 22) hx hb d_Md_covers_18 (by decide) ?_
      refine lv_iconst (v := 1) hx hb d_Md_covers_22 (by decide) ?_
      refine lv_iconst (v := 1) hx hb d_Md_covers_23 (by decide) ?_
      refine h_calli (va_runV (As := [.int 1, .int 1, .int 1]) (rest := []) ⟨hx, hb, hml, hown, htg⟩ (c_Md_goes l D cs N0 H x g i f true true true hsep hI) (cwV 3 htg (gw_V (gw_mem (i := 1092) (by decide +kernel) rfl) (gw_mem (i := 1094) (by decide +kernel) rfl) (gw_mem (i := 18) (by decide +kernel) rfl) (gw_mem (i := 38) (by decide +kernel) rfl) (gw_mem (i := 1095) (by decide +kernel) rfl)) rfl rfl rfl (by decide +kernel) ⟨Nat.le_of_ble_eq_true rfl, Nat.le_of_ble_eq_true rfl⟩) ⟨hPre.blind, hx_recv hK (ci := 0) rfl hI.1, hPre.at hB hS hsep.A⟩ rfl rfl hl.1 rfl (lv_room (Nat.le_of_ble_eq_true rfl)) d_Md_covers_24 ⟨Nat.zero_le _, Nat.zero_le _⟩) hS (fun _ h => h) (fun r24 H locs hp hz hk hS => ?_)
      obtain ⟨hI, er24⟩ := hp
      replace hI : md_I D cs H x g (upd i 0 0) f := hI
      refine lv_eqi (y := 1) er24 ?_
      refine lv_if_ne (x := 1) (tgt := 32) hx hb d_Md_covers_27 (by decide) (fun c27 => ?_) (fun c27 => ?_)
      · skip
        obtain ⟨ha, ea⟩ := isN_n c6 (by omega)
        obtain ⟨hb1, eb⟩ := isN_n c14 (by omega)
        refine lv_aload_n hx hb d_Md_covers_32 rfl (lv_at hl 0 rfl) ?_
        refine h_callv (va_runV (As := []) (rest := []) ⟨hx, hb, hml, hown, htg⟩ (c_Md_close l D cs N0 H x g ((upd i 0 0)) f hsep hI br hbr) (cwV 0 htg (gw_V (gw_mem (i := 1176) (by decide +kernel) rfl) (gw_mem (i := 1178) (by decide +kernel) rfl) (gw_mem (i := 25) (by decide +kernel) rfl) (gw_mem (i := 38) (by decide +kernel) rfl) (gw_mem (i := 1179) (by decide +kernel) rfl)) rfl rfl rfl (by decide +kernel) ⟨Nat.le_of_ble_eq_true rfl, Nat.le_of_ble_eq_true rfl⟩) ⟨hPre.blind, hx_recv hK (ci := 0) rfl hI.1, hPre.at hB hS hsep.A⟩ rfl rfl hl.1 rfl (lv_room (Nat.le_of_ble_eq_true rfl)) d_Md_covers_33 ⟨Nat.zero_le _, Nat.zero_le _⟩) hS (fun _ h => h) (fun  H locs hp hz hk hS => ?_)
        obtain ⟨R, hI, hR⟩ := hp
        refine lv_aload_n hx hb d_Md_covers_36 rfl (lv_at hl 0 rfl) ?_
        refine hx_get (v := .ref (g 11)) hx hb htg iMd hown hK hI.1 rfl 14 (by decide) (htg _ (gw_mem (i := 1012) (by decide +kernel) rfl)) (fun _ h9 => h9) rfl d_Md_covers_37 ?_
        refine lv_bipush (v := 24) hx hb d_Md_covers_40 (by decide) ?_
        refine lv_iload_n hx hb d_Md_covers_42 rfl (lv_at hl 1 rfl) ?_
        refine lv_eqi (y := (nI (tn qa))) ea ?_
        refine lv_imul (x := 24) (y := (nI (tn qa))) hx hb d_Md_covers_43 ?_
        refine lv_eqi (y := (nI (24 * (tn qa)))) (pk_mul 24 (tn qa)) ?_
        refine lv_iload_n hx hb d_Md_covers_44 rfl (lv_at hl 2 rfl) ?_
        refine lv_eqi (y := (nI (tn qb))) eb ?_
        refine lv_iadd (x := (nI (24 * (tn qa)))) (y := (nI (tn qb))) hx hb d_Md_covers_45 ?_
        refine lv_eqi (y := (nI (24 * (tn qa) + tn qb))) (nI_add (24 * (tn qa)) (tn qb)) ?_
        refine hx_zald hx hb hK 1 (hI.2 11 (by decide)) rfl (show vp_in (nI (24 * (tn qa) + tn qb)) 576 from vp_in_nI (n := 24 * (tn qa) + tn qb) (by omega) (by decide)) d_Md_covers_46 ?_
        refine lv_eqi (y := ((setA f 11 R) 11 (24 * (tn qa) + tn qb))) (show (setA f 11 R) 11 (nI (24 * (tn qa) + tn qb)).toNatClampNeg = _ by rw [nI_clamp (by omega)]) ?_
        refine lv_eqi (y := (bI (fwT br 24 (24 * tn qa + tn qb)))) (by rw [setA_self]; exact hR _ (by omega)) ?_
        exact W.zret (v := (bI (fwT br 24 (24 * tn qa + tn qb)))) hx hb hr (bI_z _) (fun t ht hW => ⟨⟨(bI (fwT br 24 (24 * tn qa + tn qb))), H, rfl, by dsimp only; have e0 : (isN n qa && isN n qb) = true := (by first | (simp [c6, c14]; done) | (simp [c6, c14]; omega) | omega | simp_all); rw [e0]; rw [if_pos (show goB true true true = true from rfl)]; exact ⟨R, hI, rfl⟩, ht⟩, hS.F ht⟩) hS.2.2 d_Md_covers_47
      · exact absurd c27 (by decide)
def y_Md_broader : MethodName := ⟨"NameMergesModel", "broader", "(II)I"⟩
abbrev w_Md_broader : List Cond := Cond.code y_Md_broader prog_7_method_25_code 3 (Option.some Jvm.ClassFile.FieldType.int) :: gw
theorem d_Md_broader_0 : decode prog_7_method_25_code 0 = .ok (.aload_n 0, 1) := by decide +kernel
theorem d_Md_broader_1 : decode prog_7_method_25_code 1 = .ok (.aload_n 0, 1) := by decide +kernel
theorem d_Md_broader_2 : decode prog_7_method_25_code 2 = .ok (.iload_n 1, 1) := by decide +kernel
theorem d_Md_broader_3 : decode prog_7_method_25_code 3 = .ok (.invokevirtual 92, 3) := by decide +kernel
theorem d_Md_broader_6 : decode prog_7_method_25_code 6 = .ok (.ifCond .eq 15, 3) := by decide +kernel
theorem d_Md_broader_9 : decode prog_7_method_25_code 9 = .ok (.aload_n 0, 1) := by decide +kernel
theorem d_Md_broader_10 : decode prog_7_method_25_code 10 = .ok (.iload_n 2, 1) := by decide +kernel
theorem d_Md_broader_11 : decode prog_7_method_25_code 11 = .ok (.invokevirtual 92, 3) := by decide +kernel
theorem d_Md_broader_14 : decode prog_7_method_25_code 14 = .ok (.ifCond .eq 7, 3) := by decide +kernel
theorem d_Md_broader_17 : decode prog_7_method_25_code 17 = .ok (.iconst 1, 1) := by decide +kernel
theorem d_Md_broader_18 : decode prog_7_method_25_code 18 = .ok (.goto 4, 3) := by decide +kernel
theorem d_Md_broader_21 : decode prog_7_method_25_code 21 = .ok (.iconst 0, 1) := by decide +kernel
theorem d_Md_broader_22 : decode prog_7_method_25_code 22 = .ok (.iconst 1, 1) := by decide +kernel
theorem d_Md_broader_23 : decode prog_7_method_25_code 23 = .ok (.iconst 1, 1) := by decide +kernel
theorem d_Md_broader_24 : decode prog_7_method_25_code 24 = .ok (.invokevirtual 88, 3) := by decide +kernel
theorem d_Md_broader_27 : decode prog_7_method_25_code 27 = .ok (.ifCond .ne 5, 3) := by decide +kernel
theorem d_Md_broader_30 : decode prog_7_method_25_code 30 = .ok (.iconst 0, 1) := by decide +kernel
theorem d_Md_broader_31 : decode prog_7_method_25_code 31 = .ok (.ireturn, 1) := by decide +kernel
theorem d_Md_broader_32 : decode prog_7_method_25_code 32 = .ok (.aload_n 0, 1) := by decide +kernel
theorem d_Md_broader_33 : decode prog_7_method_25_code 33 = .ok (.invokevirtual 124, 3) := by decide +kernel
theorem d_Md_broader_36 : decode prog_7_method_25_code 36 = .ok (.aload_n 0, 1) := by decide +kernel
theorem d_Md_broader_37 : decode prog_7_method_25_code 37 = .ok (.getfield 40, 3) := by decide +kernel
theorem d_Md_broader_40 : decode prog_7_method_25_code 40 = .ok (.bipush 24, 2) := by decide +kernel
theorem d_Md_broader_42 : decode prog_7_method_25_code 42 = .ok (.iload_n 1, 1) := by decide +kernel
theorem d_Md_broader_43 : decode prog_7_method_25_code 43 = .ok (.imul, 1) := by decide +kernel
theorem d_Md_broader_44 : decode prog_7_method_25_code 44 = .ok (.iload_n 2, 1) := by decide +kernel
theorem d_Md_broader_45 : decode prog_7_method_25_code 45 = .ok (.iadd, 1) := by decide +kernel
theorem d_Md_broader_46 : decode prog_7_method_25_code 46 = .ok (.baload, 1) := by decide +kernel
theorem d_Md_broader_47 : decode prog_7_method_25_code 47 = .ok (.ifCond .eq 5, 3) := by decide +kernel
theorem d_Md_broader_50 : decode prog_7_method_25_code 50 = .ok (.iconst 0, 1) := by decide +kernel
theorem d_Md_broader_51 : decode prog_7_method_25_code 51 = .ok (.ireturn, 1) := by decide +kernel
theorem d_Md_broader_52 : decode prog_7_method_25_code 52 = .ok (.iload_n 1, 1) := by decide +kernel
theorem d_Md_broader_53 : decode prog_7_method_25_code 53 = .ok (.iload_n 2, 1) := by decide +kernel
theorem d_Md_broader_54 : decode prog_7_method_25_code 54 = .ok (.if_icmp .eq 17, 3) := by decide +kernel
theorem d_Md_broader_57 : decode prog_7_method_25_code 57 = .ok (.aload_n 0, 1) := by decide +kernel
theorem d_Md_broader_58 : decode prog_7_method_25_code 58 = .ok (.getfield 44, 3) := by decide +kernel
theorem d_Md_broader_61 : decode prog_7_method_25_code 61 = .ok (.bipush 24, 2) := by decide +kernel
theorem d_Md_broader_63 : decode prog_7_method_25_code 63 = .ok (.iload_n 2, 1) := by decide +kernel
theorem d_Md_broader_64 : decode prog_7_method_25_code 64 = .ok (.imul, 1) := by decide +kernel
theorem d_Md_broader_65 : decode prog_7_method_25_code 65 = .ok (.iload_n 1, 1) := by decide +kernel
theorem d_Md_broader_66 : decode prog_7_method_25_code 66 = .ok (.iadd, 1) := by decide +kernel
theorem d_Md_broader_67 : decode prog_7_method_25_code 67 = .ok (.baload, 1) := by decide +kernel
theorem d_Md_broader_68 : decode prog_7_method_25_code 68 = .ok (.ifCond .eq 5, 3) := by decide +kernel
theorem d_Md_broader_71 : decode prog_7_method_25_code 71 = .ok (.iconst (-1), 1) := by decide +kernel
theorem d_Md_broader_72 : decode prog_7_method_25_code 72 = .ok (.ireturn, 1) := by decide +kernel
theorem d_Md_broader_73 : decode prog_7_method_25_code 73 = .ok (.aload_n 0, 1) := by decide +kernel
theorem d_Md_broader_74 : decode prog_7_method_25_code 74 = .ok (.getfield 40, 3) := by decide +kernel
theorem d_Md_broader_77 : decode prog_7_method_25_code 77 = .ok (.bipush 24, 2) := by decide +kernel
theorem d_Md_broader_79 : decode prog_7_method_25_code 79 = .ok (.iload_n 1, 1) := by decide +kernel
theorem d_Md_broader_80 : decode prog_7_method_25_code 80 = .ok (.imul, 1) := by decide +kernel
theorem d_Md_broader_81 : decode prog_7_method_25_code 81 = .ok (.iload_n 2, 1) := by decide +kernel
theorem d_Md_broader_82 : decode prog_7_method_25_code 82 = .ok (.iadd, 1) := by decide +kernel
theorem d_Md_broader_83 : decode prog_7_method_25_code 83 = .ok (.iconst 1, 1) := by decide +kernel
theorem d_Md_broader_84 : decode prog_7_method_25_code 84 = .ok (.bastore, 1) := by decide +kernel
theorem d_Md_broader_85 : decode prog_7_method_25_code 85 = .ok (.iconst 1, 1) := by decide +kernel
theorem d_Md_broader_86 : decode prog_7_method_25_code 86 = .ok (.ireturn, 1) := by decide +kernel
set_option maxHeartbeats 4000000 in
set_option maxRecDepth 100000 in
theorem c_Md_broader (l : Launch) (D : va_G) (cs : Nat → ClassId) (N0 : Nat) (H : Heap) (x : Nat) (g : Nat → Nat) (i : Nat → Int32) (f : Nat → Nat → Int32) (qa qb : Int32) (hsep : md_sep N0 x g) (hI : md_I D cs H x g i f) (n : Nat) (hn : i 2 = nI n) (hn24 : n ≤ 24) (br : Nat → Bool) (hbr : ∀ k, k < 576 → f 10 k = bI (br k)) : Met l y_Md_broader w_Md_broader ({ frames := 1, cells := 0, slots := 0, locals := 23 }) (hPre D cs N0 [.ref x, .int qa, .int qb] H) (hQi (fun r H' => if goB (isN n qa && isN n qb) true true = true then (if br (24 * tn qa + tn qb) = true then (∃ R : Nat → Int32, md_I D cs H' x g (upd i 0 (goV (isN n qa && isN n qb) true true)) (setA f 11 R) ∧ r = 0) else if (decide (qa = qb) || fwT br 24 (24 * tn qb + tn qa)) = true then (∃ R : Nat → Int32, md_I D cs H' x g (upd i 0 (goV (isN n qa && isN n qb) true true)) (setA f 11 R) ∧ r = -1) else (∃ R : Nat → Int32, md_I D cs H' x g (upd i 0 (goV (isN n qa && isN n qb) true true)) (setA (updA f 10 (24 * tn qa + tn qb) 1) 11 R) ∧ r = 1)) else (md_I D cs H' x g (upd i 0 (goV (isN n qa && isN n qb) true true)) f ∧ r = 0)) (md_A x g)) 0 0 (md_A x g) := by
  refine Met.ofW (cc := prog_7_method_25_code) (maxL := 3) (ret := (Option.some Jvm.ClassFile.FieldType.int)) (by decide) rfl ?_
  intro p e s m args below meth c s₁ B hml hv
  obtain ⟨rfl, rfl, hB⟩ := hv
  have hx := B.exec
  have hb := B.bytes
  have hr := B.returns
  have hts := atoms_spec (ws := w_Md_broader) B.pre
  have htg : ∀ w ∈ gw, w.before _ s = true := fun w h => hts w (List.mem_cons_of_mem _ h)
  have hown : s.vm.findClass "NameMergesModel" = some m.cls := findClass_of_methodNamed B.named
  have hlocks := B.notSynchronized
  have hK := hB.1
  have hS : va_S (md_A x g) s.heap s.heap [] := va_S.rf
  obtain ⟨H, hH⟩ : ∃ z : Heap, z = s.heap := ⟨_, rfl⟩
  rw [← hH] at hI
  have hS : va_S (md_A x g) s.heap H [] := by rw [hH]; exact va_S.rf
  have hl := lv_entry ([.ref x, .int qa, .int qb]) (n := 3) (Nat.le_of_ble_eq_true rfl)
  rw [lg_entry_eq, ← hH]
  generalize (lg_sl ([.ref x, .int qa, .int qb]) ++ List.replicate (3 - (lg_sl ([.ref x, .int qa, .int qb])).length) Slot.unset).toArray = ls at hl ⊢
  have hl : lv_has ls 3 [(0, .ref x), (1, .int qa), (2, .int qb)] := hl
  refine lv_aload_n hx hb d_Md_broader_0 rfl (lv_at hl 0 rfl) ?_
  refine lv_aload_n hx hb d_Md_broader_1 rfl (lv_at hl 0 rfl) ?_
  refine lv_iload_n hx hb d_Md_broader_2 rfl (lv_at hl 1 rfl) ?_
  refine h_calli (va_runV (As := [.int qa]) (rest := [.ref x]) ⟨hx, hb, hml, hown, htg⟩ (c_Md_isName l D cs N0 H x g i f qa hsep hI n hn) (cwV 1 htg (gw_V (gw_mem (i := 1108) (by decide +kernel) rfl) (gw_mem (i := 1110) (by decide +kernel) rfl) (gw_mem (i := 19) (by decide +kernel) rfl) (gw_mem (i := 38) (by decide +kernel) rfl) (gw_mem (i := 1111) (by decide +kernel) rfl)) rfl rfl rfl (by decide +kernel) ⟨Nat.le_of_ble_eq_true rfl, Nat.le_of_ble_eq_true rfl⟩) ⟨hPre.blind, hx_recv hK (ci := 0) rfl hI.1, hPre.at hB hS hsep.A⟩ rfl rfl hl.1 rfl (lv_room (Nat.le_of_ble_eq_true rfl)) d_Md_broader_3 ⟨Nat.zero_le _, Nat.zero_le _⟩) hS (fun _ h => h) (fun r3 H locs hp hz hk hS => ?_)
  obtain ⟨hI, er3⟩ := hp
  refine lv_eqi (y := (bI (isN n qa))) er3 ?_
  refine lv_if_eq (x := (bI (isN n qa))) (tgt := 21) hx hb d_Md_broader_6 (by decide) (fun c6 => ?_) (fun c6 => ?_)
  · skip
    replace c6 : (isN n qa) = false := bI_0 c6
    refine lv_iconst (v := 0) hx hb d_Md_broader_21 (by decide) ?_
    refine lv_iconst (v := 1) hx hb d_Md_broader_22 (by decide) ?_
    refine lv_iconst (v := 1) hx hb d_Md_broader_23 (by decide) ?_
    refine h_calli (va_runV (As := [.int 0, .int 1, .int 1]) (rest := []) ⟨hx, hb, hml, hown, htg⟩ (c_Md_goes l D cs N0 H x g i f false true true hsep hI) (cwV 3 htg (gw_V (gw_mem (i := 1092) (by decide +kernel) rfl) (gw_mem (i := 1094) (by decide +kernel) rfl) (gw_mem (i := 18) (by decide +kernel) rfl) (gw_mem (i := 38) (by decide +kernel) rfl) (gw_mem (i := 1095) (by decide +kernel) rfl)) rfl rfl rfl (by decide +kernel) ⟨Nat.le_of_ble_eq_true rfl, Nat.le_of_ble_eq_true rfl⟩) ⟨hPre.blind, hx_recv hK (ci := 0) rfl hI.1, hPre.at hB hS hsep.A⟩ rfl rfl hl.1 rfl (lv_room (Nat.le_of_ble_eq_true rfl)) d_Md_broader_24 ⟨Nat.zero_le _, Nat.zero_le _⟩) hS (fun _ h => h) (fun r24 H locs hp hz hk hS => ?_)
    obtain ⟨hI, er24⟩ := hp
    replace hI : md_I D cs H x g (upd i 0 1) f := hI
    refine lv_eqi (y := 0) er24 ?_
    refine lv_if_ne (x := 0) (tgt := 32) hx hb d_Md_broader_27 (by decide) (fun c27 => ?_) (fun c27 => ?_)
    · exact absurd c27 (by decide)
    · skip
      refine lv_iconst (v := 0) hx hb d_Md_broader_30 (by decide) ?_
      exact W.iret (v := 0) hx hb hr (fun t ht hW => ⟨⟨0, H, rfl, by dsimp only; have e0 : (isN n qa && isN n qb) = false := (by first | (simp [c6]; done) | (simp [c6]; omega) | omega | simp_all); rw [e0]; rw [if_neg (show ¬ goB false true true = true by simp [goB])]; exact ⟨hI, rfl⟩, ht⟩, hS.F ht⟩) hS.2.2 d_Md_broader_31
  · skip
    replace c6 : (isN n qa) = true := bI_1 c6
    refine lv_aload_n hx hb d_Md_broader_9 rfl (lv_at hl 0 rfl) ?_
    refine lv_iload_n hx hb d_Md_broader_10 rfl (lv_at hl 2 rfl) ?_
    refine h_calli (va_runV (As := [.int qb]) (rest := [.ref x]) ⟨hx, hb, hml, hown, htg⟩ (c_Md_isName l D cs N0 H x g i f qb hsep hI n hn) (cwV 1 htg (gw_V (gw_mem (i := 1108) (by decide +kernel) rfl) (gw_mem (i := 1110) (by decide +kernel) rfl) (gw_mem (i := 19) (by decide +kernel) rfl) (gw_mem (i := 38) (by decide +kernel) rfl) (gw_mem (i := 1111) (by decide +kernel) rfl)) rfl rfl rfl (by decide +kernel) ⟨Nat.le_of_ble_eq_true rfl, Nat.le_of_ble_eq_true rfl⟩) ⟨hPre.blind, hx_recv hK (ci := 0) rfl hI.1, hPre.at hB hS hsep.A⟩ rfl rfl hl.1 rfl (lv_room (Nat.le_of_ble_eq_true rfl)) d_Md_broader_11 ⟨Nat.zero_le _, Nat.zero_le _⟩) hS (fun _ h => h) (fun r11 H locs hp hz hk hS => ?_)
    obtain ⟨hI, er11⟩ := hp
    refine lv_eqi (y := (bI (isN n qb))) er11 ?_
    refine lv_if_eq (x := (bI (isN n qb))) (tgt := 21) hx hb d_Md_broader_14 (by decide) (fun c14 => ?_) (fun c14 => ?_)
    · skip
      replace c14 : (isN n qb) = false := bI_0 c14
      refine lv_iconst (v := 0) hx hb d_Md_broader_21 (by decide) ?_
      refine lv_iconst (v := 1) hx hb d_Md_broader_22 (by decide) ?_
      refine lv_iconst (v := 1) hx hb d_Md_broader_23 (by decide) ?_
      refine h_calli (va_runV (As := [.int 0, .int 1, .int 1]) (rest := []) ⟨hx, hb, hml, hown, htg⟩ (c_Md_goes l D cs N0 H x g i f false true true hsep hI) (cwV 3 htg (gw_V (gw_mem (i := 1092) (by decide +kernel) rfl) (gw_mem (i := 1094) (by decide +kernel) rfl) (gw_mem (i := 18) (by decide +kernel) rfl) (gw_mem (i := 38) (by decide +kernel) rfl) (gw_mem (i := 1095) (by decide +kernel) rfl)) rfl rfl rfl (by decide +kernel) ⟨Nat.le_of_ble_eq_true rfl, Nat.le_of_ble_eq_true rfl⟩) ⟨hPre.blind, hx_recv hK (ci := 0) rfl hI.1, hPre.at hB hS hsep.A⟩ rfl rfl hl.1 rfl (lv_room (Nat.le_of_ble_eq_true rfl)) d_Md_broader_24 ⟨Nat.zero_le _, Nat.zero_le _⟩) hS (fun _ h => h) (fun r24 H locs hp hz hk hS => ?_)
      obtain ⟨hI, er24⟩ := hp
      replace hI : md_I D cs H x g (upd i 0 1) f := hI
      refine lv_eqi (y := 0) er24 ?_
      refine lv_if_ne (x := 0) (tgt := 32) hx hb d_Md_broader_27 (by decide) (fun c27 => ?_) (fun c27 => ?_)
      · exact absurd c27 (by decide)
      · skip
        refine lv_iconst (v := 0) hx hb d_Md_broader_30 (by decide) ?_
        exact W.iret (v := 0) hx hb hr (fun t ht hW => ⟨⟨0, H, rfl, by dsimp only; have e0 : (isN n qa && isN n qb) = false := (by first | (simp [c6, c14]; done) | (simp [c6, c14]; omega) | omega | simp_all); rw [e0]; rw [if_neg (show ¬ goB false true true = true by simp [goB])]; exact ⟨hI, rfl⟩, ht⟩, hS.F ht⟩) hS.2.2 d_Md_broader_31
    · skip
      replace c14 : (isN n qb) = true := bI_1 c14
      refine lv_iconst (v := 1) hx hb d_Md_broader_17 (by decide) ?_
      refine lv_goto (tgt := 22) hx hb d_Md_broader_18 (by decide) ?_
      refine lv_iconst (v := 1) hx hb d_Md_broader_22 (by decide) ?_
      refine lv_iconst (v := 1) hx hb d_Md_broader_23 (by decide) ?_
      refine h_calli (va_runV (As := [.int 1, .int 1, .int 1]) (rest := []) ⟨hx, hb, hml, hown, htg⟩ (c_Md_goes l D cs N0 H x g i f true true true hsep hI) (cwV 3 htg (gw_V (gw_mem (i := 1092) (by decide +kernel) rfl) (gw_mem (i := 1094) (by decide +kernel) rfl) (gw_mem (i := 18) (by decide +kernel) rfl) (gw_mem (i := 38) (by decide +kernel) rfl) (gw_mem (i := 1095) (by decide +kernel) rfl)) rfl rfl rfl (by decide +kernel) ⟨Nat.le_of_ble_eq_true rfl, Nat.le_of_ble_eq_true rfl⟩) ⟨hPre.blind, hx_recv hK (ci := 0) rfl hI.1, hPre.at hB hS hsep.A⟩ rfl rfl hl.1 rfl (lv_room (Nat.le_of_ble_eq_true rfl)) d_Md_broader_24 ⟨Nat.zero_le _, Nat.zero_le _⟩) hS (fun _ h => h) (fun r24 H locs hp hz hk hS => ?_)
      obtain ⟨hI, er24⟩ := hp
      replace hI : md_I D cs H x g (upd i 0 0) f := hI
      refine lv_eqi (y := 1) er24 ?_
      refine lv_if_ne (x := 1) (tgt := 32) hx hb d_Md_broader_27 (by decide) (fun c27 => ?_) (fun c27 => ?_)
      · skip
        obtain ⟨ha, ea⟩ := isN_n c6 (by omega)
        obtain ⟨hb1, eb⟩ := isN_n c14 (by omega)
        refine lv_aload_n hx hb d_Md_broader_32 rfl (lv_at hl 0 rfl) ?_
        refine h_callv (va_runV (As := []) (rest := []) ⟨hx, hb, hml, hown, htg⟩ (c_Md_close l D cs N0 H x g ((upd i 0 0)) f hsep hI br hbr) (cwV 0 htg (gw_V (gw_mem (i := 1176) (by decide +kernel) rfl) (gw_mem (i := 1178) (by decide +kernel) rfl) (gw_mem (i := 25) (by decide +kernel) rfl) (gw_mem (i := 38) (by decide +kernel) rfl) (gw_mem (i := 1179) (by decide +kernel) rfl)) rfl rfl rfl (by decide +kernel) ⟨Nat.le_of_ble_eq_true rfl, Nat.le_of_ble_eq_true rfl⟩) ⟨hPre.blind, hx_recv hK (ci := 0) rfl hI.1, hPre.at hB hS hsep.A⟩ rfl rfl hl.1 rfl (lv_room (Nat.le_of_ble_eq_true rfl)) d_Md_broader_33 ⟨Nat.zero_le _, Nat.zero_le _⟩) hS (fun _ h => h) (fun  H locs hp hz hk hS => ?_)
        obtain ⟨R, hI, hR⟩ := hp
        refine lv_aload_n hx hb d_Md_broader_36 rfl (lv_at hl 0 rfl) ?_
        refine hx_get (v := .ref (g 10)) hx hb htg iMd hown hK hI.1 rfl 13 (by decide) (htg _ (gw_mem (i := 1011) (by decide +kernel) rfl)) (fun _ h9 => h9) rfl d_Md_broader_37 ?_
        refine lv_bipush (v := 24) hx hb d_Md_broader_40 (by decide) ?_
        refine lv_iload_n hx hb d_Md_broader_42 rfl (lv_at hl 1 rfl) ?_
        refine lv_eqi (y := (nI (tn qa))) ea ?_
        refine lv_imul (x := 24) (y := (nI (tn qa))) hx hb d_Md_broader_43 ?_
        refine lv_eqi (y := (nI (24 * (tn qa)))) (pk_mul 24 (tn qa)) ?_
        refine lv_iload_n hx hb d_Md_broader_44 rfl (lv_at hl 2 rfl) ?_
        refine lv_eqi (y := (nI (tn qb))) eb ?_
        refine lv_iadd (x := (nI (24 * (tn qa)))) (y := (nI (tn qb))) hx hb d_Md_broader_45 ?_
        refine lv_eqi (y := (nI (24 * (tn qa) + tn qb))) (nI_add (24 * (tn qa)) (tn qb)) ?_
        refine hx_zald hx hb hK 1 (hI.2 10 (by decide)) rfl (show vp_in (nI (24 * (tn qa) + tn qb)) 576 from vp_in_nI (n := 24 * (tn qa) + tn qb) (by omega) (by decide)) d_Md_broader_46 ?_
        refine lv_eqi (y := ((setA f 11 R) 10 (24 * (tn qa) + tn qb))) (show (setA f 11 R) 10 (nI (24 * (tn qa) + tn qb)).toNatClampNeg = _ by rw [nI_clamp (by omega)]) ?_
        refine lv_eqi (y := (bI (br (24 * tn qa + tn qb)))) (by rw [setA_ne (by decide)]; exact hbr _ (by omega)) ?_
        refine lv_if_eq (x := (bI (br (24 * tn qa + tn qb)))) (tgt := 52) hx hb d_Md_broader_47 (by decide) (fun c47 => ?_) (fun c47 => ?_)
        · skip
          replace c47 : (br (24 * tn qa + tn qb)) = false := bI_0 c47
          refine lv_iload_n hx hb d_Md_broader_52 rfl (lv_at hl 1 rfl) ?_
          refine lv_iload_n hx hb d_Md_broader_53 rfl (lv_at hl 2 rfl) ?_
          refine lv_icmp_eq (x := qa) (y := qb) (tgt := 71) hx hb d_Md_broader_54 (by decide) (fun c54 => ?_) (fun c54 => ?_)
          · skip
            refine lv_iconst (v := (-1)) hx hb d_Md_broader_71 (by decide) ?_
            exact W.iret (v := (-1)) hx hb hr (fun t ht hW => ⟨⟨(-1), H, rfl, by dsimp only; have e0 : (isN n qa && isN n qb) = true := (by first | (simp [c6, c14, c47, c54]; done) | (simp [c6, c14, c47, c54]; omega) | omega | simp_all); rw [e0]; rw [if_pos (show goB true true true = true from rfl)]; exact (by first | (rw [if_pos (by simp [c47])]; exact ⟨R, hI, rfl⟩) | (rw [if_neg (by simp [c47]), if_pos (by simp [c54])]; exact ⟨R, hI, rfl⟩) | (rw [if_neg (by simp [c47]), if_neg (by simp [c54, c68])]; exact ⟨R, by rw [← updA_setA (by decide)]; exact hI, rfl⟩)), ht⟩, hS.F ht⟩) hS.2.2 d_Md_broader_72
          · skip
            refine lv_aload_n hx hb d_Md_broader_57 rfl (lv_at hl 0 rfl) ?_
            refine hx_get (v := .ref (g 11)) hx hb htg iMd hown hK hI.1 rfl 14 (by decide) (htg _ (gw_mem (i := 1012) (by decide +kernel) rfl)) (fun _ h9 => h9) rfl d_Md_broader_58 ?_
            refine lv_bipush (v := 24) hx hb d_Md_broader_61 (by decide) ?_
            refine lv_iload_n hx hb d_Md_broader_63 rfl (lv_at hl 2 rfl) ?_
            refine lv_eqi (y := (nI (tn qb))) eb ?_
            refine lv_imul (x := 24) (y := (nI (tn qb))) hx hb d_Md_broader_64 ?_
            refine lv_eqi (y := (nI (24 * (tn qb)))) (pk_mul 24 (tn qb)) ?_
            refine lv_iload_n hx hb d_Md_broader_65 rfl (lv_at hl 1 rfl) ?_
            refine lv_eqi (y := (nI (tn qa))) ea ?_
            refine lv_iadd (x := (nI (24 * (tn qb)))) (y := (nI (tn qa))) hx hb d_Md_broader_66 ?_
            refine lv_eqi (y := (nI (24 * (tn qb) + tn qa))) (nI_add (24 * (tn qb)) (tn qa)) ?_
            refine hx_zald hx hb hK 1 (hI.2 11 (by decide)) rfl (show vp_in (nI (24 * (tn qb) + tn qa)) 576 from vp_in_nI (n := 24 * (tn qb) + tn qa) (by omega) (by decide)) d_Md_broader_67 ?_
            refine lv_eqi (y := ((setA f 11 R) 11 (24 * (tn qb) + tn qa))) (show (setA f 11 R) 11 (nI (24 * (tn qb) + tn qa)).toNatClampNeg = _ by rw [nI_clamp (by omega)]) ?_
            refine lv_eqi (y := (bI (fwT br 24 (24 * tn qb + tn qa)))) (by rw [setA_self]; exact hR _ (by omega)) ?_
            refine lv_if_eq (x := (bI (fwT br 24 (24 * tn qb + tn qa)))) (tgt := 73) hx hb d_Md_broader_68 (by decide) (fun c68 => ?_) (fun c68 => ?_)
            · skip
              replace c68 : (fwT br 24 (24 * tn qb + tn qa)) = false := bI_0 c68
              refine lv_aload_n hx hb d_Md_broader_73 rfl (lv_at hl 0 rfl) ?_
              refine hx_get (v := .ref (g 10)) hx hb htg iMd hown hK hI.1 rfl 13 (by decide) (htg _ (gw_mem (i := 1011) (by decide +kernel) rfl)) (fun _ h9 => h9) rfl d_Md_broader_74 ?_
              refine lv_bipush (v := 24) hx hb d_Md_broader_77 (by decide) ?_
              refine lv_iload_n hx hb d_Md_broader_79 rfl (lv_at hl 1 rfl) ?_
              refine lv_eqi (y := (nI (tn qa))) ea ?_
              refine lv_imul (x := 24) (y := (nI (tn qa))) hx hb d_Md_broader_80 ?_
              refine lv_eqi (y := (nI (24 * (tn qa)))) (pk_mul 24 (tn qa)) ?_
              refine lv_iload_n hx hb d_Md_broader_81 rfl (lv_at hl 2 rfl) ?_
              refine lv_eqi (y := (nI (tn qb))) eb ?_
              refine lv_iadd (x := (nI (24 * (tn qa)))) (y := (nI (tn qb))) hx hb d_Md_broader_82 ?_
              refine lv_eqi (y := (nI (24 * (tn qa) + tn qb))) (nI_add (24 * (tn qa)) (tn qb)) ?_
              refine lv_iconst (v := 1) hx hb d_Md_broader_83 (by decide) ?_
              refine hx_zast hx hb hK hS (Or.inr ⟨10, by decide, rfl⟩) 1 (hI.2 10 (by decide)) rfl (show vp_in (nI (24 * (tn qa) + tn qb)) 576 from vp_in_nI (n := 24 * (tn qa) + tn qb) (by omega) (by decide)) d_Md_broader_84 (fun H locs hat hz ho hS => ?_)
              replace hI : md_I D cs H x g (upd i 0 0) (updA (setA f 11 R) 10 (24 * (tn qa) + tn qb) (1)) := md_I.puta hI hsep (by decide) (by rw [show ((nI (24 * (tn qa) + tn qb)) : Int32).toNatClampNeg = 24 * (tn qa) + tn qb from nI_clamp (n := 24 * (tn qa) + tn qb) (by omega), show vp_nar .boolean 1 = 1 from rfl] at hat; exact hat) ho
              refine lv_iconst (v := 1) hx hb d_Md_broader_85 (by decide) ?_
              exact W.iret (v := 1) hx hb hr (fun t ht hW => ⟨⟨1, H, rfl, by dsimp only; have e0 : (isN n qa && isN n qb) = true := (by first | (simp [c6, c14, c47, c54, c68]; done) | (simp [c6, c14, c47, c54, c68]; omega) | omega | simp_all); rw [e0]; rw [if_pos (show goB true true true = true from rfl)]; exact (by first | (rw [if_pos (by simp [c47])]; exact ⟨R, hI, rfl⟩) | (rw [if_neg (by simp [c47]), if_pos (by simp [c54, c68])]; exact ⟨R, hI, rfl⟩) | (rw [if_neg (by simp [c47]), if_neg (by simp [c54, c68])]; exact ⟨R, by rw [← updA_setA (by decide)]; exact hI, rfl⟩)), ht⟩, hS.F ht⟩) hS.2.2 d_Md_broader_86
            · skip
              replace c68 : (fwT br 24 (24 * tn qb + tn qa)) = true := bI_1 c68
              refine lv_iconst (v := (-1)) hx hb d_Md_broader_71 (by decide) ?_
              exact W.iret (v := (-1)) hx hb hr (fun t ht hW => ⟨⟨(-1), H, rfl, by dsimp only; have e0 : (isN n qa && isN n qb) = true := (by first | (simp [c6, c14, c47, c54, c68]; done) | (simp [c6, c14, c47, c54, c68]; omega) | omega | simp_all); rw [e0]; rw [if_pos (show goB true true true = true from rfl)]; exact (by first | (rw [if_pos (by simp [c47])]; exact ⟨R, hI, rfl⟩) | (rw [if_neg (by simp [c47]), if_pos (by simp [c54, c68])]; exact ⟨R, hI, rfl⟩) | (rw [if_neg (by simp [c47]), if_neg (by simp [c54, c68])]; exact ⟨R, by rw [← updA_setA (by decide)]; exact hI, rfl⟩)), ht⟩, hS.F ht⟩) hS.2.2 d_Md_broader_72
        · skip
          replace c47 : (br (24 * tn qa + tn qb)) = true := bI_1 c47
          refine lv_iconst (v := 0) hx hb d_Md_broader_50 (by decide) ?_
          exact W.iret (v := 0) hx hb hr (fun t ht hW => ⟨⟨0, H, rfl, by dsimp only; have e0 : (isN n qa && isN n qb) = true := (by first | (simp [c6, c14, c47]; done) | (simp [c6, c14, c47]; omega) | omega | simp_all); rw [e0]; rw [if_pos (show goB true true true = true from rfl)]; exact (by first | (rw [if_pos (by simp [c47])]; exact ⟨R, hI, rfl⟩) | (rw [if_neg (by simp [c47]), if_pos (by simp [])]; exact ⟨R, hI, rfl⟩) | (rw [if_neg (by simp [c47]), if_neg (by simp [c54, c68])]; exact ⟨R, by rw [← updA_setA (by decide)]; exact hI, rfl⟩)), ht⟩, hS.F ht⟩) hS.2.2 d_Md_broader_51
      · exact absurd c27 (by decide)
end
section
def conn (mo mt : Nat → Nat) (hd : Nat → Bool) (mg : Nat) (a b : Nat) : Prop := ∀ S : Nat → Prop, (∀ k, k < mg → hd k = true → (S (mo k) ↔ S (mt k))) → S a → S b
theorem conn.rf {mo mt : Nat → Nat} {hd : Nat → Bool} {mg a : Nat} : conn mo mt hd mg a a := fun _ _ h => h
theorem conn.tr {mo mt : Nat → Nat} {hd : Nat → Bool} {mg a b c : Nat} (h1 : conn mo mt hd mg a b) (h2 : conn mo mt hd mg b c) : conn mo mt hd mg a c := fun S hS h => h2 S hS (h1 S hS h)
theorem conn.sy {mo mt : Nat → Nat} {hd : Nat → Bool} {mg a b : Nat} (h : conn mo mt hd mg a b) : conn mo mt hd mg b a := fun S hS => h (fun x => S x → S a) (fun k hk hh => ⟨fun q z => q ((hS k hk hh).mpr z), fun q z => q ((hS k hk hh).mp z)⟩) (fun z => z)
theorem conn.ed {mo mt : Nat → Nat} {hd : Nat → Bool} {mg k : Nat} (hk : k < mg) (hh : hd k = true) : conn mo mt hd mg (mo k) (mt k) := fun _ hS h => (hS k hk hh).mp h
def glI (mo mt : Nat → Nat) (hd : Nat → Bool) (mg : Nat) (G : Nat → Int32) (gl : Nat → Nat) : Prop := ∀ n, n < 24 → G n = nI (gl n) ∧ gl n ≤ n ∧ conn mo mt hd mg n (gl n)
def glC (mo mt : Nat → Nat) (hd : Nat → Bool) (mg : Nat) (gl : Nat → Nat) : Prop := ∀ j, j < mg → hd j = true → gl (mo j) = gl (mt j)
theorem gl_conn {mo mt : Nat → Nat} {hd : Nat → Bool} {mg : Nat} {G : Nat → Int32} {gl : Nat → Nat} (hG : glI mo mt hd mg G gl) (hC : glC mo mt hd mg gl) {a b : Nat} (ha : a < 24) (hb : b < 24) : gl a = gl b ↔ conn mo mt hd mg a b := by
  constructor
  · intro h
    have h1 := (hG a ha).2.2
    have h2 := (hG b hb).2.2
    rw [← h] at h2
    exact h1.tr h2.sy
  · intro h
    exact (h (fun x => gl x = gl a) (fun k hk hh => by rw [hC k hk hh]) rfl).symm
theorem gl_least {mo mt : Nat → Nat} {hd : Nat → Bool} {mg : Nat} {G : Nat → Int32} {gl : Nat → Nat} (hG : glI mo mt hd mg G gl) (hC : glC mo mt hd mg gl) (ho : ∀ k, k < mg → mo k < 24 ∧ mt k < 24) {a : Nat} (ha : a < 24) : conn mo mt hd mg a (gl a) ∧ ∀ y, conn mo mt hd mg a y → gl a ≤ y := by
  refine ⟨(hG a ha).2.2, fun y h => ?_⟩
  have hy : y < 24 := h (fun x => x < 24) (fun k hk _ => ⟨fun _ => (ho k hk).2, fun _ => (ho k hk).1⟩) ha
  rw [(gl_conn hG hC ha hy).mpr h]
  exact (hG y hy).2.1
def updN (g : Nat → Nat) (k v : Nat) : Nat → Nat := fun j => if j = k then v else g j
theorem sum_updN (g : Nat → Nat) (k v : Nat) : ∀ n, (k < n → sumTo (updN g k v) n + g k = sumTo g n + v) ∧ (n ≤ k → sumTo (updN g k v) n = sumTo g n) := by
  intro n
  induction n with
  | zero => exact ⟨fun h => absurd h (Nat.not_lt_zero _), fun _ => rfl⟩
  | succ n ih =>
    refine ⟨fun h => ?_, fun h => ?_⟩
    · by_cases e : k = n
      · subst e
        have h1 := ih.2 (Nat.le_refl _)
        show sumTo (updN g k v) k + updN g k v k + g k = sumTo g k + g k + v
        rw [h1, show updN g k v k = v from if_pos rfl]
        omega
      · have h1 := ih.1 (by omega)
        show sumTo (updN g k v) n + updN g k v n + g k = sumTo g n + g n + v
        rw [show updN g k v n = g n from if_neg (fun z => e z.symm)]
        omega
    · have h1 := ih.2 (by omega)
      show sumTo (updN g k v) n + updN g k v n = sumTo g n + g n
      rw [h1, show updN g k v n = g n from if_neg (by omega)]
theorem gl_put {mo mt : Nat → Nat} {hd : Nat → Bool} {mg k m : Nat} {G : Nat → Int32} {gl : Nat → Nat} (hG : glI mo mt hd mg G gl) (hk : k < mg) (hh : hd k = true) (h1 : mo k < 24) (h2 : mt k < 24) (hne : ¬ gl (mo k) = gl (mt k)) (hm : (m = gl (mo k) ∧ gl (mo k) < gl (mt k)) ∨ (m = gl (mt k) ∧ gl (mt k) < gl (mo k))) :
    glI mo mt hd mg (upd (upd G (mo k) (nI m)) (mt k) (nI m)) (updN (updN gl (mo k) m) (mt k) m) ∧ sumTo (updN (updN gl (mo k) m) (mt k) m) 24 + 1 ≤ sumTo gl 24 := by
  have hab : mo k ≠ mt k := fun z => hne (by rw [z])
  have c1 := (hG (mo k) h1).2.2
  have c2 := (hG (mt k) h2).2.2
  have e1 := conn.ed (mo := mo) (mt := mt) (hd := hd) hk hh
  have l1 := (hG (mo k) h1).2.1
  have l2 := (hG (mt k) h2).2.1
  have hcm : conn mo mt hd mg (mo k) m ∧ conn mo mt hd mg (mt k) m ∧ m ≤ mo k ∧ m ≤ mt k := by
    rcases hm with ⟨rfl, hlt⟩ | ⟨rfl, hlt⟩
    · exact ⟨c1, e1.sy.tr c1, l1, by omega⟩
    · exact ⟨e1.tr c2, c2, by omega, l2⟩
  refine ⟨fun n hn => ?_, ?_⟩
  · by_cases q2 : n = mt k
    · subst q2
      rw [upd_self, show updN (updN gl (mo k) m) (mt k) m (mt k) = m from if_pos rfl]
      exact ⟨rfl, hcm.2.2.2, hcm.2.1⟩
    · rw [upd_ne q2, show updN (updN gl (mo k) m) (mt k) m n = updN gl (mo k) m n from if_neg q2]
      by_cases q1 : n = mo k
      · subst q1
        rw [upd_self, show updN gl (mo k) m (mo k) = m from if_pos rfl]
        exact ⟨rfl, hcm.2.2.1, hcm.1⟩
      · rw [upd_ne q1, show updN gl (mo k) m n = gl n from if_neg q1]
        exact hG n hn
  · have s1 := (sum_updN gl (mo k) m 24).1 h1
    have s2 := (sum_updN (updN gl (mo k) m) (mt k) m 24).1 h2
    rw [show updN gl (mo k) m (mt k) = gl (mt k) from if_neg (fun z => hab z.symm)] at s2
    rcases hm with ⟨rfl, hlt⟩ | ⟨rfl, hlt⟩ <;> omega
def holdB (f : Nat → Nat → Int32) (dy : Int32) : Nat → Bool := fun k => !decide (dy < f 15 k) && (decide (f 16 k = -1) || !decide (f 16 k ≤ dy))
def b01 (b : Bool) : Nat := if b = true then 1 else 0
def y_Md_join : MethodName := ⟨"NameMergesModel", "join", "(I)V"⟩
abbrev w_Md_join : List Cond := Cond.code y_Md_join prog_7_method_14_code 6 (Option.none : Option Jvm.ClassFile.FieldType) :: gw
theorem d_Md_join_0 : decode prog_7_method_14_code 0 = .ok (.iconst 0, 1) := by decide +kernel
theorem d_Md_join_1 : decode prog_7_method_14_code 1 = .ok (.istore_n 2, 1) := by decide +kernel
theorem d_Md_join_2 : decode prog_7_method_14_code 2 = .ok (.iload_n 2, 1) := by decide +kernel
theorem d_Md_join_3 : decode prog_7_method_14_code 3 = .ok (.bipush 24, 2) := by decide +kernel
theorem d_Md_join_5 : decode prog_7_method_14_code 5 = .ok (.if_icmp .ge 16, 3) := by decide +kernel
theorem d_Md_join_8 : decode prog_7_method_14_code 8 = .ok (.aload_n 0, 1) := by decide +kernel
theorem d_Md_join_9 : decode prog_7_method_14_code 9 = .ok (.getfield 62, 3) := by decide +kernel
theorem d_Md_join_12 : decode prog_7_method_14_code 12 = .ok (.iload_n 2, 1) := by decide +kernel
theorem d_Md_join_13 : decode prog_7_method_14_code 13 = .ok (.iload_n 2, 1) := by decide +kernel
theorem d_Md_join_14 : decode prog_7_method_14_code 14 = .ok (.iastore, 1) := by decide +kernel
theorem d_Md_join_15 : decode prog_7_method_14_code 15 = .ok (.iinc 2 1, 3) := by decide +kernel
theorem d_Md_join_18 : decode prog_7_method_14_code 18 = .ok (.goto (-16), 3) := by decide +kernel
theorem d_Md_join_21 : decode prog_7_method_14_code 21 = .ok (.iconst 1, 1) := by decide +kernel
theorem d_Md_join_22 : decode prog_7_method_14_code 22 = .ok (.istore_n 2, 1) := by decide +kernel
theorem d_Md_join_23 : decode prog_7_method_14_code 23 = .ok (.iload_n 2, 1) := by decide +kernel
theorem d_Md_join_24 : decode prog_7_method_14_code 24 = .ok (.ifCond .eq 139, 3) := by decide +kernel
theorem d_Md_join_27 : decode prog_7_method_14_code 27 = .ok (.iconst 0, 1) := by decide +kernel
theorem d_Md_join_28 : decode prog_7_method_14_code 28 = .ok (.istore_n 2, 1) := by decide +kernel
theorem d_Md_join_29 : decode prog_7_method_14_code 29 = .ok (.iconst 0, 1) := by decide +kernel
theorem d_Md_join_30 : decode prog_7_method_14_code 30 = .ok (.istore_n 3, 1) := by decide +kernel
theorem d_Md_join_31 : decode prog_7_method_14_code 31 = .ok (.iload_n 3, 1) := by decide +kernel
theorem d_Md_join_32 : decode prog_7_method_14_code 32 = .ok (.aload_n 0, 1) := by decide +kernel
theorem d_Md_join_33 : decode prog_7_method_14_code 33 = .ok (.getfield 106, 3) := by decide +kernel
theorem d_Md_join_36 : decode prog_7_method_14_code 36 = .ok (.if_icmp .ge 124, 3) := by decide +kernel
theorem d_Md_join_39 : decode prog_7_method_14_code 39 = .ok (.aload_n 0, 1) := by decide +kernel
theorem d_Md_join_40 : decode prog_7_method_14_code 40 = .ok (.getfield 62, 3) := by decide +kernel
theorem d_Md_join_43 : decode prog_7_method_14_code 43 = .ok (.aload_n 0, 1) := by decide +kernel
theorem d_Md_join_44 : decode prog_7_method_14_code 44 = .ok (.getfield 50, 3) := by decide +kernel
theorem d_Md_join_47 : decode prog_7_method_14_code 47 = .ok (.iload_n 3, 1) := by decide +kernel
theorem d_Md_join_48 : decode prog_7_method_14_code 48 = .ok (.iaload, 1) := by decide +kernel
theorem d_Md_join_49 : decode prog_7_method_14_code 49 = .ok (.iaload, 1) := by decide +kernel
theorem d_Md_join_50 : decode prog_7_method_14_code 50 = .ok (.istore 4, 2) := by decide +kernel
theorem d_Md_join_52 : decode prog_7_method_14_code 52 = .ok (.aload_n 0, 1) := by decide +kernel
theorem d_Md_join_53 : decode prog_7_method_14_code 53 = .ok (.getfield 62, 3) := by decide +kernel
theorem d_Md_join_56 : decode prog_7_method_14_code 56 = .ok (.aload_n 0, 1) := by decide +kernel
theorem d_Md_join_57 : decode prog_7_method_14_code 57 = .ok (.getfield 53, 3) := by decide +kernel
theorem d_Md_join_60 : decode prog_7_method_14_code 60 = .ok (.iload_n 3, 1) := by decide +kernel
theorem d_Md_join_61 : decode prog_7_method_14_code 61 = .ok (.iaload, 1) := by decide +kernel
theorem d_Md_join_62 : decode prog_7_method_14_code 62 = .ok (.iaload, 1) := by decide +kernel
theorem d_Md_join_63 : decode prog_7_method_14_code 63 = .ok (.istore 5, 2) := by decide +kernel
theorem d_Md_join_65 : decode prog_7_method_14_code 65 = .ok (.aload_n 0, 1) := by decide +kernel
theorem d_Md_join_66 : decode prog_7_method_14_code 66 = .ok (.getfield 56, 3) := by decide +kernel
theorem d_Md_join_69 : decode prog_7_method_14_code 69 = .ok (.iload_n 3, 1) := by decide +kernel
theorem d_Md_join_70 : decode prog_7_method_14_code 70 = .ok (.iaload, 1) := by decide +kernel
theorem d_Md_join_71 : decode prog_7_method_14_code 71 = .ok (.iload_n 1, 1) := by decide +kernel
theorem d_Md_join_72 : decode prog_7_method_14_code 72 = .ok (.if_icmp .gt 82, 3) := by decide +kernel
theorem d_Md_join_75 : decode prog_7_method_14_code 75 = .ok (.aload_n 0, 1) := by decide +kernel
theorem d_Md_join_76 : decode prog_7_method_14_code 76 = .ok (.getfield 59, 3) := by decide +kernel
theorem d_Md_join_79 : decode prog_7_method_14_code 79 = .ok (.iload_n 3, 1) := by decide +kernel
theorem d_Md_join_80 : decode prog_7_method_14_code 80 = .ok (.iaload, 1) := by decide +kernel
theorem d_Md_join_81 : decode prog_7_method_14_code 81 = .ok (.iconst (-1), 1) := by decide +kernel
theorem d_Md_join_82 : decode prog_7_method_14_code 82 = .ok (.if_icmp .eq 13, 3) := by decide +kernel
theorem d_Md_join_85 : decode prog_7_method_14_code 85 = .ok (.iload_n 1, 1) := by decide +kernel
theorem d_Md_join_86 : decode prog_7_method_14_code 86 = .ok (.aload_n 0, 1) := by decide +kernel
theorem d_Md_join_87 : decode prog_7_method_14_code 87 = .ok (.getfield 59, 3) := by decide +kernel
theorem d_Md_join_90 : decode prog_7_method_14_code 90 = .ok (.iload_n 3, 1) := by decide +kernel
theorem d_Md_join_91 : decode prog_7_method_14_code 91 = .ok (.iaload, 1) := by decide +kernel
theorem d_Md_join_92 : decode prog_7_method_14_code 92 = .ok (.if_icmp .ge 62, 3) := by decide +kernel
theorem d_Md_join_95 : decode prog_7_method_14_code 95 = .ok (.iload 4, 2) := by decide +kernel
theorem d_Md_join_97 : decode prog_7_method_14_code 97 = .ok (.iload 5, 2) := by decide +kernel
theorem d_Md_join_99 : decode prog_7_method_14_code 99 = .ok (.if_icmp .eq 55, 3) := by decide +kernel
theorem d_Md_join_102 : decode prog_7_method_14_code 102 = .ok (.aload_n 0, 1) := by decide +kernel
theorem d_Md_join_103 : decode prog_7_method_14_code 103 = .ok (.getfield 62, 3) := by decide +kernel
theorem d_Md_join_106 : decode prog_7_method_14_code 106 = .ok (.aload_n 0, 1) := by decide +kernel
theorem d_Md_join_107 : decode prog_7_method_14_code 107 = .ok (.getfield 50, 3) := by decide +kernel
theorem d_Md_join_110 : decode prog_7_method_14_code 110 = .ok (.iload_n 3, 1) := by decide +kernel
theorem d_Md_join_111 : decode prog_7_method_14_code 111 = .ok (.iaload, 1) := by decide +kernel
theorem d_Md_join_112 : decode prog_7_method_14_code 112 = .ok (.iload 4, 2) := by decide +kernel
theorem d_Md_join_114 : decode prog_7_method_14_code 114 = .ok (.iload 5, 2) := by decide +kernel
theorem d_Md_join_116 : decode prog_7_method_14_code 116 = .ok (.if_icmp .ge 8, 3) := by decide +kernel
theorem d_Md_join_119 : decode prog_7_method_14_code 119 = .ok (.iload 4, 2) := by decide +kernel
theorem d_Md_join_121 : decode prog_7_method_14_code 121 = .ok (.goto 5, 3) := by decide +kernel
theorem d_Md_join_124 : decode prog_7_method_14_code 124 = .ok (.iload 5, 2) := by decide +kernel
theorem d_Md_join_126 : decode prog_7_method_14_code 126 = .ok (.iastore, 1) := by decide +kernel
theorem d_Md_join_127 : decode prog_7_method_14_code 127 = .ok (.aload_n 0, 1) := by decide +kernel
theorem d_Md_join_128 : decode prog_7_method_14_code 128 = .ok (.getfield 62, 3) := by decide +kernel
theorem d_Md_join_131 : decode prog_7_method_14_code 131 = .ok (.aload_n 0, 1) := by decide +kernel
theorem d_Md_join_132 : decode prog_7_method_14_code 132 = .ok (.getfield 53, 3) := by decide +kernel
theorem d_Md_join_135 : decode prog_7_method_14_code 135 = .ok (.iload_n 3, 1) := by decide +kernel
theorem d_Md_join_136 : decode prog_7_method_14_code 136 = .ok (.iaload, 1) := by decide +kernel
theorem d_Md_join_137 : decode prog_7_method_14_code 137 = .ok (.iload 4, 2) := by decide +kernel
theorem d_Md_join_139 : decode prog_7_method_14_code 139 = .ok (.iload 5, 2) := by decide +kernel
theorem d_Md_join_141 : decode prog_7_method_14_code 141 = .ok (.if_icmp .ge 8, 3) := by decide +kernel
theorem d_Md_join_144 : decode prog_7_method_14_code 144 = .ok (.iload 4, 2) := by decide +kernel
theorem d_Md_join_146 : decode prog_7_method_14_code 146 = .ok (.goto 5, 3) := by decide +kernel
theorem d_Md_join_149 : decode prog_7_method_14_code 149 = .ok (.iload 5, 2) := by decide +kernel
theorem d_Md_join_151 : decode prog_7_method_14_code 151 = .ok (.iastore, 1) := by decide +kernel
theorem d_Md_join_152 : decode prog_7_method_14_code 152 = .ok (.iconst 1, 1) := by decide +kernel
theorem d_Md_join_153 : decode prog_7_method_14_code 153 = .ok (.istore_n 2, 1) := by decide +kernel
theorem d_Md_join_154 : decode prog_7_method_14_code 154 = .ok (.iinc 3 1, 3) := by decide +kernel
theorem d_Md_join_157 : decode prog_7_method_14_code 157 = .ok (.goto (-126), 3) := by decide +kernel
theorem d_Md_join_160 : decode prog_7_method_14_code 160 = .ok (.goto (-137), 3) := by decide +kernel
theorem d_Md_join_163 : decode prog_7_method_14_code 163 = .ok (.return_, 1) := by decide +kernel
set_option maxHeartbeats 4000000 in
set_option maxRecDepth 100000 in
theorem c_Md_join (l : Launch) (D : va_G) (cs : Nat → ClassId) (N0 : Nat) (H : Heap) (x : Nat) (g : Nat → Nat) (i : Nat → Int32) (f : Nat → Nat → Int32) (dy : Int32) (hsep : md_sep N0 x g) (hI : md_I D cs H x g i f) (mg : Nat) (hmg : i 3 = nI mg) (hmg60 : mg ≤ 60) (mo mt : Nat → Nat) (hone : ∀ k, k < mg → f 13 k = nI (mo k) ∧ mo k < 24) (hoth : ∀ k, k < mg → f 14 k = nI (mt k) ∧ mt k < 24) : Met l y_Md_join w_Md_join ({ frames := 0, cells := 0, slots := 0, locals := 0 }) (hPre D cs N0 [.ref x, .int dy] H) (hQv (fun H' => ∃ (G : Nat → Int32) (gl : Nat → Nat), md_I D cs H' x g i (setA f 17 G) ∧ glI mo mt (holdB f dy) mg G gl ∧ glC mo mt (holdB f dy) mg gl) (md_A x g)) 0 0 (md_A x g) := by
  refine Met.ofW (cc := prog_7_method_14_code) (maxL := 6) (ret := (Option.none : Option Jvm.ClassFile.FieldType)) (by decide) rfl ?_
  intro p e s m args below meth c s₁ B hml hv
  obtain ⟨rfl, rfl, hB⟩ := hv
  have hx := B.exec
  have hb := B.bytes
  have hr := B.returns
  have hts := atoms_spec (ws := w_Md_join) B.pre
  have htg : ∀ w ∈ gw, w.before _ s = true := fun w h => hts w (List.mem_cons_of_mem _ h)
  have hown : s.vm.findClass "NameMergesModel" = some m.cls := findClass_of_methodNamed B.named
  have hlocks := B.notSynchronized
  have hK := hB.1
  have hS : va_S (md_A x g) s.heap s.heap [] := va_S.rf
  obtain ⟨H, hH⟩ : ∃ z : Heap, z = s.heap := ⟨_, rfl⟩
  rw [← hH] at hI
  have hS : va_S (md_A x g) s.heap H [] := by rw [hH]; exact va_S.rf
  have hl := lv_entry ([.ref x, .int dy]) (n := 6) (Nat.le_of_ble_eq_true rfl)
  rw [lg_entry_eq, ← hH]
  generalize (lg_sl ([.ref x, .int dy]) ++ List.replicate (6 - (lg_sl ([.ref x, .int dy])).length) Slot.unset).toArray = ls at hl ⊢
  have hl : lv_has ls 6 [(0, .ref x), (1, .int dy)] := hl
  refine lv_iconst (v := 0) hx hb d_Md_join_0 (by decide) ?_
  refine lv_istore_n (lv' := [(2, .int 0), (0, .ref x), (1, .int dy)]) hx hb d_Md_join_1 rfl hl (by decide) rfl (fun ls hl => ?_)
  have loop2 : ∀ (fuel : Nat) (F1 : Nat → Nat → Int32) (k : Nat), 24 - k < fuel → (k ≤ 24) → (∀ a, a ≠ 17 → F1 a = f a) → (∀ j, j < k → F1 17 j = nI j) → ∀ (H : Heap) (locs : List Loc), md_I D cs H x g i F1 → va_S (md_A x g) s.heap H locs → ∀ (ls : Array Slot), lv_has ls 6 [(0, .ref x), (1, .int dy), (2, .int (nI k))] → W p l e (headSpec w_Md_join ({ frames := 0, cells := 0, slots := 0, locals := 0 })).room s m ([.ref x, .int dy] : List Value).toArray below meth c H locs 0 0 (MQ below (hQv (fun H' => ∃ (G : Nat → Int32) (gl : Nat → Nat), md_I D cs H' x g i (setA f 17 G) ∧ glI mo mt (holdB f dy) mg G gl ∧ glC mo mt (holdB f dy) mg gl) (md_A x g)) ([.ref x, .int dy] : List Value).toArray s 0 0 (md_A x g)) (F0 m 2 ls []) := by
    intro fuel2
    induction fuel2 with
    | zero => intro F1 k hn; exact absurd hn (Nat.not_lt_zero _)
    | succ fuel2 ih2 =>
      intro F1 k hn2 hk hF hR H locs hI hS ls hl
      refine lv_iload_n hx hb d_Md_join_2 rfl (lv_at hl 2 rfl) ?_
      refine lv_bipush (v := 24) hx hb d_Md_join_3 (by decide) ?_
      refine lv_icmp_ge (x := (nI k)) (y := 24) (tgt := 21) hx hb d_Md_join_5 (by decide) (fun c5 => ?_) (fun c5 => ?_)
      · skip
        replace c5 : 24 ≤ k := (nI_leI (a := 24) (b := k) (by omega) (by omega)).mp c5
        refine lv_iconst (v := 1) hx hb d_Md_join_21 (by decide) ?_
        refine lv_istore_n (lv' := [(2, .int 1), (0, .ref x), (1, .int dy)]) hx hb d_Md_join_22 rfl hl (by decide) rfl (fun ls hl => ?_)
        have loop23 : ∀ (fuel : Nat) (F2 : Nat → Nat → Int32) (gl : Nat → Nat) (w : Bool), 2 * sumTo gl 24 + b01 w < fuel → (∀ a, a ≠ 17 → F2 a = f a) → (glI mo mt (holdB f dy) mg (F2 17) gl) → (w = false → glC mo mt (holdB f dy) mg gl) → ∀ (H : Heap) (locs : List Loc), md_I D cs H x g i F2 → va_S (md_A x g) s.heap H locs → ∀ (ls : Array Slot), lv_has ls 6 [(0, .ref x), (1, .int dy), (2, .int (bI w))] → W p l e (headSpec w_Md_join ({ frames := 0, cells := 0, slots := 0, locals := 0 })).room s m ([.ref x, .int dy] : List Value).toArray below meth c H locs 0 0 (MQ below (hQv (fun H' => ∃ (G : Nat → Int32) (gl : Nat → Nat), md_I D cs H' x g i (setA f 17 G) ∧ glI mo mt (holdB f dy) mg G gl ∧ glC mo mt (holdB f dy) mg gl) (md_A x g)) ([.ref x, .int dy] : List Value).toArray s 0 0 (md_A x g)) (F0 m 23 ls []) := by
          intro fuel23
          induction fuel23 with
          | zero => intro F2 gl w hn; exact absurd hn (Nat.not_lt_zero _)
          | succ fuel23 ih23 =>
            intro F2 gl w hn23 hF2 hG2 hC2 H locs hI hS ls hl
            refine lv_iload_n hx hb d_Md_join_23 rfl (lv_at hl 2 rfl) ?_
            refine lv_if_eq (x := (bI w)) (tgt := 163) hx hb d_Md_join_24 (by decide) (fun c24 => ?_) (fun c24 => ?_)
            · skip
              replace c24 : w = false := bI_0 c24
              exact W.vret hx hb hr (fun t ht hW => ⟨⟨H, rfl, ⟨F2 17, gl, setA_of hF2 ▸ hI, hG2, hC2 c24⟩, ht⟩, hS.F ht⟩) hS.2.2 d_Md_join_163
            · skip
              replace c24 : w = true := bI_1 c24
              refine lv_iconst (v := 0) hx hb d_Md_join_27 (by decide) ?_
              refine lv_istore_n (lv' := [(2, .int 0), (0, .ref x), (1, .int dy)]) hx hb d_Md_join_28 rfl hl (by decide) rfl (fun ls hl => ?_)
              refine lv_iconst (v := 0) hx hb d_Md_join_29 (by decide) ?_
              refine lv_istore_n (lv' := [(3, .int 0), (2, .int 0), (0, .ref x), (1, .int dy)]) hx hb d_Md_join_30 rfl hl (by decide) rfl (fun ls hl => ?_)
              have loop31 : ∀ (fuel : Nat) (F3 : Nat → Nat → Int32) (gl3 : Nat → Nat) (w : Bool) (k : Nat), mg - k < fuel → (k ≤ mg) → (∀ a, a ≠ 17 → F3 a = f a) → (glI mo mt (holdB f dy) mg (F3 17) gl3) → (w = false → glC mo mt (holdB f dy) k gl3) → (sumTo gl3 24 + b01 w ≤ sumTo gl 24) → ∀ (H : Heap) (locs : List Loc), md_I D cs H x g i F3 → va_S (md_A x g) s.heap H locs → ∀ (ls : Array Slot), lv_has ls 6 [(0, .ref x), (1, .int dy), (2, .int (bI w)), (3, .int (nI k))] → W p l e (headSpec w_Md_join ({ frames := 0, cells := 0, slots := 0, locals := 0 })).room s m ([.ref x, .int dy] : List Value).toArray below meth c H locs 0 0 (MQ below (hQv (fun H' => ∃ (G : Nat → Int32) (gl : Nat → Nat), md_I D cs H' x g i (setA f 17 G) ∧ glI mo mt (holdB f dy) mg G gl ∧ glC mo mt (holdB f dy) mg gl) (md_A x g)) ([.ref x, .int dy] : List Value).toArray s 0 0 (md_A x g)) (F0 m 31 ls []) := by
                intro fuel31
                induction fuel31 with
                | zero => intro F3 gl3 w k hn; exact absurd hn (Nat.not_lt_zero _)
                | succ fuel31 ih31 =>
                  intro F3 gl3 w k hn31 hk hF3 hG3 hC3 hs3 H locs hI hS ls hl
                  refine lv_iload_n hx hb d_Md_join_31 rfl (lv_at hl 3 rfl) ?_
                  refine lv_aload_n hx hb d_Md_join_32 rfl (lv_at hl 0 rfl) ?_
                  refine hx_get (v := .int (i 3)) hx hb htg iMd hown hK hI.1 rfl 16 (by decide) (htg _ (gw_mem (i := 1014) (by decide +kernel) rfl)) (fun _ h9 => h9) rfl d_Md_join_33 ?_
                  refine lv_eqi (y := (nI mg)) hmg ?_
                  refine lv_icmp_ge (x := (nI k)) (y := (nI mg)) (tgt := 160) hx hb d_Md_join_36 (by decide) (fun c36 => ?_) (fun c36 => ?_)
                  · skip
                    replace c36 : mg ≤ k := (nI_leI (a := mg) (b := k) (by omega) (by omega)).mp c36
                    refine lv_goto (tgt := 23) hx hb d_Md_join_160 (by decide) ?_
                    exact ih23  _ gl3 w (by have e8 := hs3; rw [c24] at hn23; simp only [b01] at hn23 e8 ⊢; split <;> simp_all <;> omega) hF3 hG3 (fun z9 => by have e9 : k = mg := (by omega); subst e9; exact hC3 z9) _ _ hI hS ls (lv_sub hl [0, 1, 2] rfl)
                  · skip
                    replace c36 : ¬ (mg ≤ k) := fun z9 => c36 ((nI_leI (a := mg) (b := k) (by omega) (by omega)).mpr z9)
                    have hmo := hone k (by omega)
                    have hmt := hoth k (by omega)
                    have hg1 := (hG3 (mo k) hmo.2).2.1
                    have hg2 := (hG3 (mt k) hmt.2).2.1
                    refine lv_aload_n hx hb d_Md_join_39 rfl (lv_at hl 0 rfl) ?_
                    refine hx_get (v := .ref (g 17)) hx hb htg iMd hown hK hI.1 rfl 21 (by decide) (htg _ (gw_mem (i := 1019) (by decide +kernel) rfl)) (fun _ h9 => h9) rfl d_Md_join_40 ?_
                    refine lv_aload_n hx hb d_Md_join_43 rfl (lv_at hl 0 rfl) ?_
                    refine hx_get (v := .ref (g 13)) hx hb htg iMd hown hK hI.1 rfl 17 (by decide) (htg _ (gw_mem (i := 1015) (by decide +kernel) rfl)) (fun _ h9 => h9) rfl d_Md_join_44 ?_
                    refine lv_iload_n hx hb d_Md_join_47 rfl (lv_at hl 3 rfl) ?_
                    refine hx_iald hx hb hK 0 (hI.2 13 (by decide)) rfl (show vp_in (nI k) 60 from vp_in_nI (n := k) (by omega) (by decide)) d_Md_join_48 ?_
                    refine lv_eqi (y := (F3 13 k)) (show F3 13 (nI k).toNatClampNeg = _ by rw [nI_clamp (by omega)]) ?_
                    refine lv_eqi (y := (nI (mo k))) (by rw [hF3 13 (by decide)]; exact hmo.1) ?_
                    refine hx_iald hx hb hK 0 (hI.2 17 (by decide)) rfl (show vp_in (nI (mo k)) 24 from vp_in_nI (n := mo k) (by omega) (by decide)) d_Md_join_49 ?_
                    refine lv_eqi (y := (F3 17 (mo k))) (show F3 17 (nI (mo k)).toNatClampNeg = _ by rw [nI_clamp (by omega)]) ?_
                    refine lv_eqi (y := (nI (gl3 (mo k)))) (hG3 (mo k) hmo.2).1 ?_
                    refine lv_istore (lv' := [(4, .int (nI (gl3 (mo k)))), (0, .ref x), (1, .int dy), (2, .int (bI w)), (3, .int (nI k))]) hx hb d_Md_join_50 hl (by decide) rfl (fun ls hl => ?_)
                    refine lv_aload_n hx hb d_Md_join_52 rfl (lv_at hl 1 rfl) ?_
                    refine hx_get (v := .ref (g 17)) hx hb htg iMd hown hK hI.1 rfl 21 (by decide) (htg _ (gw_mem (i := 1019) (by decide +kernel) rfl)) (fun _ h9 => h9) rfl d_Md_join_53 ?_
                    refine lv_aload_n hx hb d_Md_join_56 rfl (lv_at hl 1 rfl) ?_
                    refine hx_get (v := .ref (g 14)) hx hb htg iMd hown hK hI.1 rfl 18 (by decide) (htg _ (gw_mem (i := 1016) (by decide +kernel) rfl)) (fun _ h9 => h9) rfl d_Md_join_57 ?_
                    refine lv_iload_n hx hb d_Md_join_60 rfl (lv_at hl 4 rfl) ?_
                    refine hx_iald hx hb hK 0 (hI.2 14 (by decide)) rfl (show vp_in (nI k) 60 from vp_in_nI (n := k) (by omega) (by decide)) d_Md_join_61 ?_
                    refine lv_eqi (y := (F3 14 k)) (show F3 14 (nI k).toNatClampNeg = _ by rw [nI_clamp (by omega)]) ?_
                    refine lv_eqi (y := (nI (mt k))) (by rw [hF3 14 (by decide)]; exact hmt.1) ?_
                    refine hx_iald hx hb hK 0 (hI.2 17 (by decide)) rfl (show vp_in (nI (mt k)) 24 from vp_in_nI (n := mt k) (by omega) (by decide)) d_Md_join_62 ?_
                    refine lv_eqi (y := (F3 17 (mt k))) (show F3 17 (nI (mt k)).toNatClampNeg = _ by rw [nI_clamp (by omega)]) ?_
                    refine lv_eqi (y := (nI (gl3 (mt k)))) (hG3 (mt k) hmt.2).1 ?_
                    refine lv_istore (lv' := [(5, .int (nI (gl3 (mt k)))), (4, .int (nI (gl3 (mo k)))), (0, .ref x), (1, .int dy), (2, .int (bI w)), (3, .int (nI k))]) hx hb d_Md_join_63 hl (by decide) rfl (fun ls hl => ?_)
                    refine lv_aload_n hx hb d_Md_join_65 rfl (lv_at hl 2 rfl) ?_
                    refine hx_get (v := .ref (g 15)) hx hb htg iMd hown hK hI.1 rfl 19 (by decide) (htg _ (gw_mem (i := 1017) (by decide +kernel) rfl)) (fun _ h9 => h9) rfl d_Md_join_66 ?_
                    refine lv_iload_n hx hb d_Md_join_69 rfl (lv_at hl 5 rfl) ?_
                    refine hx_iald hx hb hK 0 (hI.2 15 (by decide)) rfl (show vp_in (nI k) 60 from vp_in_nI (n := k) (by omega) (by decide)) d_Md_join_70 ?_
                    refine lv_eqi (y := (F3 15 k)) (show F3 15 (nI k).toNatClampNeg = _ by rw [nI_clamp (by omega)]) ?_
                    refine lv_eqi (y := (f 15 k)) (by rw [hF3 15 (by decide)]) ?_
                    refine lv_iload_n hx hb d_Md_join_71 rfl (lv_at hl 3 rfl) ?_
                    refine lv_icmp_gt (x := (f 15 k)) (y := dy) (tgt := 154) hx hb d_Md_join_72 (by decide) (fun c72 => ?_) (fun c72 => ?_)
                    · skip
                      refine lv_iinc (v := (nI (k + 1))) (lv' := [(3, .int (nI (k + 1))), (5, .int (nI (gl3 (mt k)))), (4, .int (nI (gl3 (mo k)))), (0, .ref x), (1, .int dy), (2, .int (bI w))]) hx hb d_Md_join_154 hl (k := 5) rfl (nI_1 k) (by decide) rfl (fun ls hl => ?_)
                      refine lv_goto (tgt := 31) hx hb d_Md_join_157 (by decide) ?_
                      exact ih31  _ gl3 w (k + 1) (by omega) (by omega) hF3 hG3 (fun z9 j hj hh => by by_cases e9 : j = k; (· subst e9; exact absurd hh (by simp [holdB, c72])); (· exact hC3 z9 j (by omega) hh)) hs3 _ _ hI hS ls (lv_sub hl [3, 4, 5, 0] rfl)
                    · skip
                      refine lv_aload_n hx hb d_Md_join_75 rfl (lv_at hl 2 rfl) ?_
                      refine hx_get (v := .ref (g 16)) hx hb htg iMd hown hK hI.1 rfl 20 (by decide) (htg _ (gw_mem (i := 1018) (by decide +kernel) rfl)) (fun _ h9 => h9) rfl d_Md_join_76 ?_
                      refine lv_iload_n hx hb d_Md_join_79 rfl (lv_at hl 5 rfl) ?_
                      refine hx_iald hx hb hK 0 (hI.2 16 (by decide)) rfl (show vp_in (nI k) 60 from vp_in_nI (n := k) (by omega) (by decide)) d_Md_join_80 ?_
                      refine lv_eqi (y := (F3 16 k)) (show F3 16 (nI k).toNatClampNeg = _ by rw [nI_clamp (by omega)]) ?_
                      refine lv_eqi (y := (f 16 k)) (by rw [hF3 16 (by decide)]) ?_
                      refine lv_iconst (v := (-1)) hx hb d_Md_join_81 (by decide) ?_
                      refine lv_icmp_eq (x := (f 16 k)) (y := (-1)) (tgt := 95) hx hb d_Md_join_82 (by decide) (fun c82 => ?_) (fun c82 => ?_)
                      · skip
                        refine lv_iload hx hb d_Md_join_95 (lv_at hl 1 rfl) ?_
                        refine lv_iload hx hb d_Md_join_97 (lv_at hl 0 rfl) ?_
                        refine lv_icmp_eq (x := (nI (gl3 (mo k)))) (y := (nI (gl3 (mt k)))) (tgt := 154) hx hb d_Md_join_99 (by decide) (fun c99 => ?_) (fun c99 => ?_)
                        · skip
                          replace c99 : (gl3 (mo k)) = (gl3 (mt k)) := (nI_eq (a := (gl3 (mo k))) (b := (gl3 (mt k))) (by omega) (by omega)).mp c99
                          refine lv_iinc (v := (nI (k + 1))) (lv' := [(3, .int (nI (k + 1))), (5, .int (nI (gl3 (mt k)))), (4, .int (nI (gl3 (mo k)))), (0, .ref x), (1, .int dy), (2, .int (bI w))]) hx hb d_Md_join_154 hl (k := 5) rfl (nI_1 k) (by decide) rfl (fun ls hl => ?_)
                          refine lv_goto (tgt := 31) hx hb d_Md_join_157 (by decide) ?_
                          exact ih31  _ gl3 w (k + 1) (by omega) (by omega) hF3 hG3 (fun z9 j hj hh => by by_cases e9 : j = k; (· subst e9; exact c99); (· exact hC3 z9 j (by omega) hh)) hs3 _ _ hI hS ls (lv_sub hl [3, 4, 5, 0] rfl)
                        · skip
                          replace c99 : ¬ ((gl3 (mo k)) = (gl3 (mt k))) := fun z9 => c99 ((nI_eq (a := (gl3 (mo k))) (b := (gl3 (mt k))) (by omega) (by omega)).mpr z9)
                          refine lv_aload_n hx hb d_Md_join_102 rfl (lv_at hl 2 rfl) ?_
                          refine hx_get (v := .ref (g 17)) hx hb htg iMd hown hK hI.1 rfl 21 (by decide) (htg _ (gw_mem (i := 1019) (by decide +kernel) rfl)) (fun _ h9 => h9) rfl d_Md_join_103 ?_
                          refine lv_aload_n hx hb d_Md_join_106 rfl (lv_at hl 2 rfl) ?_
                          refine hx_get (v := .ref (g 13)) hx hb htg iMd hown hK hI.1 rfl 17 (by decide) (htg _ (gw_mem (i := 1015) (by decide +kernel) rfl)) (fun _ h9 => h9) rfl d_Md_join_107 ?_
                          refine lv_iload_n hx hb d_Md_join_110 rfl (lv_at hl 5 rfl) ?_
                          refine hx_iald hx hb hK 0 (hI.2 13 (by decide)) rfl (show vp_in (nI k) 60 from vp_in_nI (n := k) (by omega) (by decide)) d_Md_join_111 ?_
                          refine lv_eqi (y := (F3 13 k)) (show F3 13 (nI k).toNatClampNeg = _ by rw [nI_clamp (by omega)]) ?_
                          refine lv_eqi (y := (nI (mo k))) (by rw [hF3 13 (by decide)]; exact hmo.1) ?_
                          refine lv_iload hx hb d_Md_join_112 (lv_at hl 1 rfl) ?_
                          refine lv_iload hx hb d_Md_join_114 (lv_at hl 0 rfl) ?_
                          refine lv_icmp_ge (x := (nI (gl3 (mo k)))) (y := (nI (gl3 (mt k)))) (tgt := 124) hx hb d_Md_join_116 (by decide) (fun c116 => ?_) (fun c116 => ?_)
                          · skip
                            replace c116 : (gl3 (mt k)) ≤ (gl3 (mo k)) := (nI_leI (a := (gl3 (mt k))) (b := (gl3 (mo k))) (by omega) (by omega)).mp c116
                            refine lv_iload hx hb d_Md_join_124 (lv_at hl 0 rfl) ?_
                            refine hx_iast hx hb hK hS (Or.inr ⟨17, by decide, rfl⟩) 0 (hI.2 17 (by decide)) rfl (show vp_in (nI (mo k)) 24 from vp_in_nI (n := mo k) (by omega) (by decide)) d_Md_join_126 (fun H locs hat hz ho hS => ?_)
                            replace hI : md_I D cs H x g i (updA F3 17 (mo k) ((nI (gl3 (mt k))))) := md_I.puta hI hsep (by decide) (by rw [show ((nI (mo k)) : Int32).toNatClampNeg = mo k from nI_clamp (n := mo k) (by omega)] at hat; exact hat) ho
                            refine lv_aload_n hx hb d_Md_join_127 rfl (lv_at hl 2 rfl) ?_
                            refine hx_get (v := .ref (g 17)) hx hb htg iMd hown hK hI.1 rfl 21 (by decide) (htg _ (gw_mem (i := 1019) (by decide +kernel) rfl)) (fun _ h9 => h9) rfl d_Md_join_128 ?_
                            refine lv_aload_n hx hb d_Md_join_131 rfl (lv_at hl 2 rfl) ?_
                            refine hx_get (v := .ref (g 14)) hx hb htg iMd hown hK hI.1 rfl 18 (by decide) (htg _ (gw_mem (i := 1016) (by decide +kernel) rfl)) (fun _ h9 => h9) rfl d_Md_join_132 ?_
                            refine lv_iload_n hx hb d_Md_join_135 rfl (lv_at hl 5 rfl) ?_
                            refine hx_iald hx hb hK 0 (hI.2 14 (by decide)) rfl (show vp_in (nI k) 60 from vp_in_nI (n := k) (by omega) (by decide)) d_Md_join_136 ?_
                            refine lv_eqi (y := ((updA F3 17 (mo k) ((nI (gl3 (mt k))))) 14 k)) (show (updA F3 17 (mo k) ((nI (gl3 (mt k))))) 14 (nI k).toNatClampNeg = _ by rw [nI_clamp (by omega)]) ?_
                            refine lv_eqi (y := (nI (mt k))) (by rw [updA_ne (by decide), hF3 14 (by decide)]; exact hmt.1) ?_
                            refine lv_iload hx hb d_Md_join_137 (lv_at hl 1 rfl) ?_
                            refine lv_iload hx hb d_Md_join_139 (lv_at hl 0 rfl) ?_
                            refine lv_icmp_ge (x := (nI (gl3 (mo k)))) (y := (nI (gl3 (mt k)))) (tgt := 149) hx hb d_Md_join_141 (by decide) (fun c141 => ?_) (fun c141 => ?_)
                            · skip
                              replace c141 : (gl3 (mt k)) ≤ (gl3 (mo k)) := (nI_leI (a := (gl3 (mt k))) (b := (gl3 (mo k))) (by omega) (by omega)).mp c141
                              refine lv_iload hx hb d_Md_join_149 (lv_at hl 0 rfl) ?_
                              refine hx_iast hx hb hK hS (Or.inr ⟨17, by decide, rfl⟩) 0 (hI.2 17 (by decide)) rfl (show vp_in (nI (mt k)) 24 from vp_in_nI (n := mt k) (by omega) (by decide)) d_Md_join_151 (fun H locs hat hz ho hS => ?_)
                              replace hI : md_I D cs H x g i (updA (updA F3 17 (mo k) ((nI (gl3 (mt k))))) 17 (mt k) ((nI (gl3 (mt k))))) := md_I.puta hI hsep (by decide) (by rw [show ((nI (mt k)) : Int32).toNatClampNeg = mt k from nI_clamp (n := mt k) (by omega)] at hat; exact hat) ho
                              refine lv_iconst (v := 1) hx hb d_Md_join_152 (by decide) ?_
                              refine lv_istore_n (lv' := [(2, .int 1), (5, .int (nI (gl3 (mt k)))), (4, .int (nI (gl3 (mo k)))), (0, .ref x), (1, .int dy), (3, .int (nI k))]) hx hb d_Md_join_153 rfl hl (by decide) rfl (fun ls hl => ?_)
                              refine lv_iinc (v := (nI (k + 1))) (lv' := [(3, .int (nI (k + 1))), (2, .int 1), (5, .int (nI (gl3 (mt k)))), (4, .int (nI (gl3 (mo k)))), (0, .ref x), (1, .int dy)]) hx hb d_Md_join_154 hl (k := 5) rfl (nI_1 k) (by decide) rfl (fun ls hl => ?_)
                              refine lv_goto (tgt := 31) hx hb d_Md_join_157 (by decide) ?_
                              have hh9 : holdB f dy k = true := by simp [holdB, c72, c82]
                              obtain ⟨p1, p2⟩ := gl_put (m := gl3 (mt k)) hG3 (by omega) hh9 hmo.2 hmt.2 c99 (by omega)
                              exact ih31  _ _ true (k + 1) (by omega) (by omega) (fun a ha => ((updA_ne ha).trans (updA_ne ha)).trans (hF3 a ha)) (by rw [updA_self, updA_self]; exact p1) (fun z9 => absurd z9 (by decide)) (by simp only [b01] at hs3 ⊢; split at hs3 <;> simp_all <;> omega) _ _ hI hS ls (lv_sub hl [4, 5, 1, 0] rfl)
                            · skip
                              replace c141 : ¬ ((gl3 (mt k)) ≤ (gl3 (mo k))) := fun z9 => c141 ((nI_leI (a := (gl3 (mt k))) (b := (gl3 (mo k))) (by omega) (by omega)).mpr z9)
                              exact absurd c116 c141
                          · skip
                            replace c116 : ¬ ((gl3 (mt k)) ≤ (gl3 (mo k))) := fun z9 => c116 ((nI_leI (a := (gl3 (mt k))) (b := (gl3 (mo k))) (by omega) (by omega)).mpr z9)
                            refine lv_iload hx hb d_Md_join_119 (lv_at hl 1 rfl) ?_
                            refine lv_goto (tgt := 126) hx hb d_Md_join_121 (by decide) ?_
                            refine hx_iast hx hb hK hS (Or.inr ⟨17, by decide, rfl⟩) 0 (hI.2 17 (by decide)) rfl (show vp_in (nI (mo k)) 24 from vp_in_nI (n := mo k) (by omega) (by decide)) d_Md_join_126 (fun H locs hat hz ho hS => ?_)
                            replace hI : md_I D cs H x g i (updA F3 17 (mo k) ((nI (gl3 (mo k))))) := md_I.puta hI hsep (by decide) (by rw [show ((nI (mo k)) : Int32).toNatClampNeg = mo k from nI_clamp (n := mo k) (by omega)] at hat; exact hat) ho
                            refine lv_aload_n hx hb d_Md_join_127 rfl (lv_at hl 2 rfl) ?_
                            refine hx_get (v := .ref (g 17)) hx hb htg iMd hown hK hI.1 rfl 21 (by decide) (htg _ (gw_mem (i := 1019) (by decide +kernel) rfl)) (fun _ h9 => h9) rfl d_Md_join_128 ?_
                            refine lv_aload_n hx hb d_Md_join_131 rfl (lv_at hl 2 rfl) ?_
                            refine hx_get (v := .ref (g 14)) hx hb htg iMd hown hK hI.1 rfl 18 (by decide) (htg _ (gw_mem (i := 1016) (by decide +kernel) rfl)) (fun _ h9 => h9) rfl d_Md_join_132 ?_
                            refine lv_iload_n hx hb d_Md_join_135 rfl (lv_at hl 5 rfl) ?_
                            refine hx_iald hx hb hK 0 (hI.2 14 (by decide)) rfl (show vp_in (nI k) 60 from vp_in_nI (n := k) (by omega) (by decide)) d_Md_join_136 ?_
                            refine lv_eqi (y := ((updA F3 17 (mo k) ((nI (gl3 (mo k))))) 14 k)) (show (updA F3 17 (mo k) ((nI (gl3 (mo k))))) 14 (nI k).toNatClampNeg = _ by rw [nI_clamp (by omega)]) ?_
                            refine lv_eqi (y := (nI (mt k))) (by rw [updA_ne (by decide), hF3 14 (by decide)]; exact hmt.1) ?_
                            refine lv_iload hx hb d_Md_join_137 (lv_at hl 1 rfl) ?_
                            refine lv_iload hx hb d_Md_join_139 (lv_at hl 0 rfl) ?_
                            refine lv_icmp_ge (x := (nI (gl3 (mo k)))) (y := (nI (gl3 (mt k)))) (tgt := 149) hx hb d_Md_join_141 (by decide) (fun c141 => ?_) (fun c141 => ?_)
                            · skip
                              replace c141 : (gl3 (mt k)) ≤ (gl3 (mo k)) := (nI_leI (a := (gl3 (mt k))) (b := (gl3 (mo k))) (by omega) (by omega)).mp c141
                              exact absurd c141 c116
                            · skip
                              replace c141 : ¬ ((gl3 (mt k)) ≤ (gl3 (mo k))) := fun z9 => c141 ((nI_leI (a := (gl3 (mt k))) (b := (gl3 (mo k))) (by omega) (by omega)).mpr z9)
                              refine lv_iload hx hb d_Md_join_144 (lv_at hl 1 rfl) ?_
                              refine lv_goto (tgt := 151) hx hb d_Md_join_146 (by decide) ?_
                              refine hx_iast hx hb hK hS (Or.inr ⟨17, by decide, rfl⟩) 0 (hI.2 17 (by decide)) rfl (show vp_in (nI (mt k)) 24 from vp_in_nI (n := mt k) (by omega) (by decide)) d_Md_join_151 (fun H locs hat hz ho hS => ?_)
                              replace hI : md_I D cs H x g i (updA (updA F3 17 (mo k) ((nI (gl3 (mo k))))) 17 (mt k) ((nI (gl3 (mo k))))) := md_I.puta hI hsep (by decide) (by rw [show ((nI (mt k)) : Int32).toNatClampNeg = mt k from nI_clamp (n := mt k) (by omega)] at hat; exact hat) ho
                              refine lv_iconst (v := 1) hx hb d_Md_join_152 (by decide) ?_
                              refine lv_istore_n (lv' := [(2, .int 1), (5, .int (nI (gl3 (mt k)))), (4, .int (nI (gl3 (mo k)))), (0, .ref x), (1, .int dy), (3, .int (nI k))]) hx hb d_Md_join_153 rfl hl (by decide) rfl (fun ls hl => ?_)
                              refine lv_iinc (v := (nI (k + 1))) (lv' := [(3, .int (nI (k + 1))), (2, .int 1), (5, .int (nI (gl3 (mt k)))), (4, .int (nI (gl3 (mo k)))), (0, .ref x), (1, .int dy)]) hx hb d_Md_join_154 hl (k := 5) rfl (nI_1 k) (by decide) rfl (fun ls hl => ?_)
                              refine lv_goto (tgt := 31) hx hb d_Md_join_157 (by decide) ?_
                              have hh9 : holdB f dy k = true := by simp [holdB, c72, c82]
                              obtain ⟨p1, p2⟩ := gl_put (m := gl3 (mo k)) hG3 (by omega) hh9 hmo.2 hmt.2 c99 (by omega)
                              exact ih31  _ _ true (k + 1) (by omega) (by omega) (fun a ha => ((updA_ne ha).trans (updA_ne ha)).trans (hF3 a ha)) (by rw [updA_self, updA_self]; exact p1) (fun z9 => absurd z9 (by decide)) (by simp only [b01] at hs3 ⊢; split at hs3 <;> simp_all <;> omega) _ _ hI hS ls (lv_sub hl [4, 5, 1, 0] rfl)
                      · skip
                        refine lv_iload_n hx hb d_Md_join_85 rfl (lv_at hl 3 rfl) ?_
                        refine lv_aload_n hx hb d_Md_join_86 rfl (lv_at hl 2 rfl) ?_
                        refine hx_get (v := .ref (g 16)) hx hb htg iMd hown hK hI.1 rfl 20 (by decide) (htg _ (gw_mem (i := 1018) (by decide +kernel) rfl)) (fun _ h9 => h9) rfl d_Md_join_87 ?_
                        refine lv_iload_n hx hb d_Md_join_90 rfl (lv_at hl 5 rfl) ?_
                        refine hx_iald hx hb hK 0 (hI.2 16 (by decide)) rfl (show vp_in (nI k) 60 from vp_in_nI (n := k) (by omega) (by decide)) d_Md_join_91 ?_
                        refine lv_eqi (y := (F3 16 k)) (show F3 16 (nI k).toNatClampNeg = _ by rw [nI_clamp (by omega)]) ?_
                        refine lv_eqi (y := (f 16 k)) (by rw [hF3 16 (by decide)]) ?_
                        refine lv_icmp_ge (x := dy) (y := (f 16 k)) (tgt := 154) hx hb d_Md_join_92 (by decide) (fun c92 => ?_) (fun c92 => ?_)
                        · skip
                          refine lv_iinc (v := (nI (k + 1))) (lv' := [(3, .int (nI (k + 1))), (5, .int (nI (gl3 (mt k)))), (4, .int (nI (gl3 (mo k)))), (0, .ref x), (1, .int dy), (2, .int (bI w))]) hx hb d_Md_join_154 hl (k := 5) rfl (nI_1 k) (by decide) rfl (fun ls hl => ?_)
                          refine lv_goto (tgt := 31) hx hb d_Md_join_157 (by decide) ?_
                          exact ih31  _ gl3 w (k + 1) (by omega) (by omega) hF3 hG3 (fun z9 j hj hh => by by_cases e9 : j = k; (· subst e9; exact absurd hh (by simp [holdB, c72, c82, c92])); (· exact hC3 z9 j (by omega) hh)) hs3 _ _ hI hS ls (lv_sub hl [3, 4, 5, 0] rfl)
                        · skip
                          refine lv_iload hx hb d_Md_join_95 (lv_at hl 1 rfl) ?_
                          refine lv_iload hx hb d_Md_join_97 (lv_at hl 0 rfl) ?_
                          refine lv_icmp_eq (x := (nI (gl3 (mo k)))) (y := (nI (gl3 (mt k)))) (tgt := 154) hx hb d_Md_join_99 (by decide) (fun c99 => ?_) (fun c99 => ?_)
                          · skip
                            replace c99 : (gl3 (mo k)) = (gl3 (mt k)) := (nI_eq (a := (gl3 (mo k))) (b := (gl3 (mt k))) (by omega) (by omega)).mp c99
                            refine lv_iinc (v := (nI (k + 1))) (lv' := [(3, .int (nI (k + 1))), (5, .int (nI (gl3 (mt k)))), (4, .int (nI (gl3 (mo k)))), (0, .ref x), (1, .int dy), (2, .int (bI w))]) hx hb d_Md_join_154 hl (k := 5) rfl (nI_1 k) (by decide) rfl (fun ls hl => ?_)
                            refine lv_goto (tgt := 31) hx hb d_Md_join_157 (by decide) ?_
                            exact ih31  _ gl3 w (k + 1) (by omega) (by omega) hF3 hG3 (fun z9 j hj hh => by by_cases e9 : j = k; (· subst e9; exact c99); (· exact hC3 z9 j (by omega) hh)) hs3 _ _ hI hS ls (lv_sub hl [3, 4, 5, 0] rfl)
                          · skip
                            replace c99 : ¬ ((gl3 (mo k)) = (gl3 (mt k))) := fun z9 => c99 ((nI_eq (a := (gl3 (mo k))) (b := (gl3 (mt k))) (by omega) (by omega)).mpr z9)
                            refine lv_aload_n hx hb d_Md_join_102 rfl (lv_at hl 2 rfl) ?_
                            refine hx_get (v := .ref (g 17)) hx hb htg iMd hown hK hI.1 rfl 21 (by decide) (htg _ (gw_mem (i := 1019) (by decide +kernel) rfl)) (fun _ h9 => h9) rfl d_Md_join_103 ?_
                            refine lv_aload_n hx hb d_Md_join_106 rfl (lv_at hl 2 rfl) ?_
                            refine hx_get (v := .ref (g 13)) hx hb htg iMd hown hK hI.1 rfl 17 (by decide) (htg _ (gw_mem (i := 1015) (by decide +kernel) rfl)) (fun _ h9 => h9) rfl d_Md_join_107 ?_
                            refine lv_iload_n hx hb d_Md_join_110 rfl (lv_at hl 5 rfl) ?_
                            refine hx_iald hx hb hK 0 (hI.2 13 (by decide)) rfl (show vp_in (nI k) 60 from vp_in_nI (n := k) (by omega) (by decide)) d_Md_join_111 ?_
                            refine lv_eqi (y := (F3 13 k)) (show F3 13 (nI k).toNatClampNeg = _ by rw [nI_clamp (by omega)]) ?_
                            refine lv_eqi (y := (nI (mo k))) (by rw [hF3 13 (by decide)]; exact hmo.1) ?_
                            refine lv_iload hx hb d_Md_join_112 (lv_at hl 1 rfl) ?_
                            refine lv_iload hx hb d_Md_join_114 (lv_at hl 0 rfl) ?_
                            refine lv_icmp_ge (x := (nI (gl3 (mo k)))) (y := (nI (gl3 (mt k)))) (tgt := 124) hx hb d_Md_join_116 (by decide) (fun c116 => ?_) (fun c116 => ?_)
                            · skip
                              replace c116 : (gl3 (mt k)) ≤ (gl3 (mo k)) := (nI_leI (a := (gl3 (mt k))) (b := (gl3 (mo k))) (by omega) (by omega)).mp c116
                              refine lv_iload hx hb d_Md_join_124 (lv_at hl 0 rfl) ?_
                              refine hx_iast hx hb hK hS (Or.inr ⟨17, by decide, rfl⟩) 0 (hI.2 17 (by decide)) rfl (show vp_in (nI (mo k)) 24 from vp_in_nI (n := mo k) (by omega) (by decide)) d_Md_join_126 (fun H locs hat hz ho hS => ?_)
                              replace hI : md_I D cs H x g i (updA F3 17 (mo k) ((nI (gl3 (mt k))))) := md_I.puta hI hsep (by decide) (by rw [show ((nI (mo k)) : Int32).toNatClampNeg = mo k from nI_clamp (n := mo k) (by omega)] at hat; exact hat) ho
                              refine lv_aload_n hx hb d_Md_join_127 rfl (lv_at hl 2 rfl) ?_
                              refine hx_get (v := .ref (g 17)) hx hb htg iMd hown hK hI.1 rfl 21 (by decide) (htg _ (gw_mem (i := 1019) (by decide +kernel) rfl)) (fun _ h9 => h9) rfl d_Md_join_128 ?_
                              refine lv_aload_n hx hb d_Md_join_131 rfl (lv_at hl 2 rfl) ?_
                              refine hx_get (v := .ref (g 14)) hx hb htg iMd hown hK hI.1 rfl 18 (by decide) (htg _ (gw_mem (i := 1016) (by decide +kernel) rfl)) (fun _ h9 => h9) rfl d_Md_join_132 ?_
                              refine lv_iload_n hx hb d_Md_join_135 rfl (lv_at hl 5 rfl) ?_
                              refine hx_iald hx hb hK 0 (hI.2 14 (by decide)) rfl (show vp_in (nI k) 60 from vp_in_nI (n := k) (by omega) (by decide)) d_Md_join_136 ?_
                              refine lv_eqi (y := ((updA F3 17 (mo k) ((nI (gl3 (mt k))))) 14 k)) (show (updA F3 17 (mo k) ((nI (gl3 (mt k))))) 14 (nI k).toNatClampNeg = _ by rw [nI_clamp (by omega)]) ?_
                              refine lv_eqi (y := (nI (mt k))) (by rw [updA_ne (by decide), hF3 14 (by decide)]; exact hmt.1) ?_
                              refine lv_iload hx hb d_Md_join_137 (lv_at hl 1 rfl) ?_
                              refine lv_iload hx hb d_Md_join_139 (lv_at hl 0 rfl) ?_
                              refine lv_icmp_ge (x := (nI (gl3 (mo k)))) (y := (nI (gl3 (mt k)))) (tgt := 149) hx hb d_Md_join_141 (by decide) (fun c141 => ?_) (fun c141 => ?_)
                              · skip
                                replace c141 : (gl3 (mt k)) ≤ (gl3 (mo k)) := (nI_leI (a := (gl3 (mt k))) (b := (gl3 (mo k))) (by omega) (by omega)).mp c141
                                refine lv_iload hx hb d_Md_join_149 (lv_at hl 0 rfl) ?_
                                refine hx_iast hx hb hK hS (Or.inr ⟨17, by decide, rfl⟩) 0 (hI.2 17 (by decide)) rfl (show vp_in (nI (mt k)) 24 from vp_in_nI (n := mt k) (by omega) (by decide)) d_Md_join_151 (fun H locs hat hz ho hS => ?_)
                                replace hI : md_I D cs H x g i (updA (updA F3 17 (mo k) ((nI (gl3 (mt k))))) 17 (mt k) ((nI (gl3 (mt k))))) := md_I.puta hI hsep (by decide) (by rw [show ((nI (mt k)) : Int32).toNatClampNeg = mt k from nI_clamp (n := mt k) (by omega)] at hat; exact hat) ho
                                refine lv_iconst (v := 1) hx hb d_Md_join_152 (by decide) ?_
                                refine lv_istore_n (lv' := [(2, .int 1), (5, .int (nI (gl3 (mt k)))), (4, .int (nI (gl3 (mo k)))), (0, .ref x), (1, .int dy), (3, .int (nI k))]) hx hb d_Md_join_153 rfl hl (by decide) rfl (fun ls hl => ?_)
                                refine lv_iinc (v := (nI (k + 1))) (lv' := [(3, .int (nI (k + 1))), (2, .int 1), (5, .int (nI (gl3 (mt k)))), (4, .int (nI (gl3 (mo k)))), (0, .ref x), (1, .int dy)]) hx hb d_Md_join_154 hl (k := 5) rfl (nI_1 k) (by decide) rfl (fun ls hl => ?_)
                                refine lv_goto (tgt := 31) hx hb d_Md_join_157 (by decide) ?_
                                have hh9 : holdB f dy k = true := by simp [holdB, c72, c82, c92]
                                obtain ⟨p1, p2⟩ := gl_put (m := gl3 (mt k)) hG3 (by omega) hh9 hmo.2 hmt.2 c99 (by omega)
                                exact ih31  _ _ true (k + 1) (by omega) (by omega) (fun a ha => ((updA_ne ha).trans (updA_ne ha)).trans (hF3 a ha)) (by rw [updA_self, updA_self]; exact p1) (fun z9 => absurd z9 (by decide)) (by simp only [b01] at hs3 ⊢; split at hs3 <;> simp_all <;> omega) _ _ hI hS ls (lv_sub hl [4, 5, 1, 0] rfl)
                              · skip
                                replace c141 : ¬ ((gl3 (mt k)) ≤ (gl3 (mo k))) := fun z9 => c141 ((nI_leI (a := (gl3 (mt k))) (b := (gl3 (mo k))) (by omega) (by omega)).mpr z9)
                                exact absurd c116 c141
                            · skip
                              replace c116 : ¬ ((gl3 (mt k)) ≤ (gl3 (mo k))) := fun z9 => c116 ((nI_leI (a := (gl3 (mt k))) (b := (gl3 (mo k))) (by omega) (by omega)).mpr z9)
                              refine lv_iload hx hb d_Md_join_119 (lv_at hl 1 rfl) ?_
                              refine lv_goto (tgt := 126) hx hb d_Md_join_121 (by decide) ?_
                              refine hx_iast hx hb hK hS (Or.inr ⟨17, by decide, rfl⟩) 0 (hI.2 17 (by decide)) rfl (show vp_in (nI (mo k)) 24 from vp_in_nI (n := mo k) (by omega) (by decide)) d_Md_join_126 (fun H locs hat hz ho hS => ?_)
                              replace hI : md_I D cs H x g i (updA F3 17 (mo k) ((nI (gl3 (mo k))))) := md_I.puta hI hsep (by decide) (by rw [show ((nI (mo k)) : Int32).toNatClampNeg = mo k from nI_clamp (n := mo k) (by omega)] at hat; exact hat) ho
                              refine lv_aload_n hx hb d_Md_join_127 rfl (lv_at hl 2 rfl) ?_
                              refine hx_get (v := .ref (g 17)) hx hb htg iMd hown hK hI.1 rfl 21 (by decide) (htg _ (gw_mem (i := 1019) (by decide +kernel) rfl)) (fun _ h9 => h9) rfl d_Md_join_128 ?_
                              refine lv_aload_n hx hb d_Md_join_131 rfl (lv_at hl 2 rfl) ?_
                              refine hx_get (v := .ref (g 14)) hx hb htg iMd hown hK hI.1 rfl 18 (by decide) (htg _ (gw_mem (i := 1016) (by decide +kernel) rfl)) (fun _ h9 => h9) rfl d_Md_join_132 ?_
                              refine lv_iload_n hx hb d_Md_join_135 rfl (lv_at hl 5 rfl) ?_
                              refine hx_iald hx hb hK 0 (hI.2 14 (by decide)) rfl (show vp_in (nI k) 60 from vp_in_nI (n := k) (by omega) (by decide)) d_Md_join_136 ?_
                              refine lv_eqi (y := ((updA F3 17 (mo k) ((nI (gl3 (mo k))))) 14 k)) (show (updA F3 17 (mo k) ((nI (gl3 (mo k))))) 14 (nI k).toNatClampNeg = _ by rw [nI_clamp (by omega)]) ?_
                              refine lv_eqi (y := (nI (mt k))) (by rw [updA_ne (by decide), hF3 14 (by decide)]; exact hmt.1) ?_
                              refine lv_iload hx hb d_Md_join_137 (lv_at hl 1 rfl) ?_
                              refine lv_iload hx hb d_Md_join_139 (lv_at hl 0 rfl) ?_
                              refine lv_icmp_ge (x := (nI (gl3 (mo k)))) (y := (nI (gl3 (mt k)))) (tgt := 149) hx hb d_Md_join_141 (by decide) (fun c141 => ?_) (fun c141 => ?_)
                              · skip
                                replace c141 : (gl3 (mt k)) ≤ (gl3 (mo k)) := (nI_leI (a := (gl3 (mt k))) (b := (gl3 (mo k))) (by omega) (by omega)).mp c141
                                exact absurd c141 c116
                              · skip
                                replace c141 : ¬ ((gl3 (mt k)) ≤ (gl3 (mo k))) := fun z9 => c141 ((nI_leI (a := (gl3 (mt k))) (b := (gl3 (mo k))) (by omega) (by omega)).mpr z9)
                                refine lv_iload hx hb d_Md_join_144 (lv_at hl 1 rfl) ?_
                                refine lv_goto (tgt := 151) hx hb d_Md_join_146 (by decide) ?_
                                refine hx_iast hx hb hK hS (Or.inr ⟨17, by decide, rfl⟩) 0 (hI.2 17 (by decide)) rfl (show vp_in (nI (mt k)) 24 from vp_in_nI (n := mt k) (by omega) (by decide)) d_Md_join_151 (fun H locs hat hz ho hS => ?_)
                                replace hI : md_I D cs H x g i (updA (updA F3 17 (mo k) ((nI (gl3 (mo k))))) 17 (mt k) ((nI (gl3 (mo k))))) := md_I.puta hI hsep (by decide) (by rw [show ((nI (mt k)) : Int32).toNatClampNeg = mt k from nI_clamp (n := mt k) (by omega)] at hat; exact hat) ho
                                refine lv_iconst (v := 1) hx hb d_Md_join_152 (by decide) ?_
                                refine lv_istore_n (lv' := [(2, .int 1), (5, .int (nI (gl3 (mt k)))), (4, .int (nI (gl3 (mo k)))), (0, .ref x), (1, .int dy), (3, .int (nI k))]) hx hb d_Md_join_153 rfl hl (by decide) rfl (fun ls hl => ?_)
                                refine lv_iinc (v := (nI (k + 1))) (lv' := [(3, .int (nI (k + 1))), (2, .int 1), (5, .int (nI (gl3 (mt k)))), (4, .int (nI (gl3 (mo k)))), (0, .ref x), (1, .int dy)]) hx hb d_Md_join_154 hl (k := 5) rfl (nI_1 k) (by decide) rfl (fun ls hl => ?_)
                                refine lv_goto (tgt := 31) hx hb d_Md_join_157 (by decide) ?_
                                have hh9 : holdB f dy k = true := by simp [holdB, c72, c82, c92]
                                obtain ⟨p1, p2⟩ := gl_put (m := gl3 (mo k)) hG3 (by omega) hh9 hmo.2 hmt.2 c99 (by omega)
                                exact ih31  _ _ true (k + 1) (by omega) (by omega) (fun a ha => ((updA_ne ha).trans (updA_ne ha)).trans (hF3 a ha)) (by rw [updA_self, updA_self]; exact p1) (fun z9 => absurd z9 (by decide)) (by simp only [b01] at hs3 ⊢; split at hs3 <;> simp_all <;> omega) _ _ hI hS ls (lv_sub hl [4, 5, 1, 0] rfl)
              exact loop31 ((mg - 0) + 1) _ gl false 0 (Nat.lt_succ_self _) (Nat.zero_le _) hF2 hG2 (fun _ j hj => absurd hj (Nat.not_lt_zero j)) (by simp [b01]) _ _ hI hS ls (lv_sub hl [2, 3, 1, 0] rfl)
        exact loop23 ((2 * sumTo (fun n => n) 24 + b01 true) + 1) _ (fun n => n) true (Nat.lt_succ_self _) hF (fun n hn => ⟨hR n (by omega), Nat.le_refl _, conn.rf⟩) (fun z9 => absurd z9 (by decide)) _ _ hI hS ls (lv_sub hl [1, 2, 0] rfl)
      · skip
        replace c5 : ¬ (24 ≤ k) := fun z9 => c5 ((nI_leI (a := 24) (b := k) (by omega) (by omega)).mpr z9)
        refine lv_aload_n hx hb d_Md_join_8 rfl (lv_at hl 0 rfl) ?_
        refine hx_get (v := .ref (g 17)) hx hb htg iMd hown hK hI.1 rfl 21 (by decide) (htg _ (gw_mem (i := 1019) (by decide +kernel) rfl)) (fun _ h9 => h9) rfl d_Md_join_9 ?_
        refine lv_iload_n hx hb d_Md_join_12 rfl (lv_at hl 2 rfl) ?_
        refine lv_iload_n hx hb d_Md_join_13 rfl (lv_at hl 2 rfl) ?_
        refine hx_iast hx hb hK hS (Or.inr ⟨17, by decide, rfl⟩) 0 (hI.2 17 (by decide)) rfl (show vp_in (nI k) 24 from vp_in_nI (n := k) (by omega) (by decide)) d_Md_join_14 (fun H locs hat hz ho hS => ?_)
        replace hI : md_I D cs H x g i (updA F1 17 k ((nI k))) := md_I.puta hI hsep (by decide) (by rw [show ((nI k) : Int32).toNatClampNeg = k from nI_clamp (n := k) (by omega)] at hat; exact hat) ho
        refine lv_iinc (v := (nI (k + 1))) (lv' := [(2, .int (nI (k + 1))), (0, .ref x), (1, .int dy)]) hx hb d_Md_join_15 hl (k := 2) rfl (nI_1 k) (by decide) rfl (fun ls hl => ?_)
        refine lv_goto (tgt := 2) hx hb d_Md_join_18 (by decide) ?_
        exact ih2  _ (k + 1) (by omega) (by omega) (fun a ha => (updA_ne ha).trans (hF a ha)) (by rw [updA_self]; exact upd_lt (G := fun j => nI j) hR rfl) _ _ hI hS ls (lv_sub hl [1, 2, 0] rfl)
  exact loop2 ((24 - 0) + 1) f 0 (Nat.lt_succ_self _) (by decide) (fun _ _ => rfl) (fun j hj => absurd hj (Nat.not_lt_zero j)) _ _ hI hS ls (lv_sub hl [1, 2, 0] rfl)
end
section
noncomputable def oneB (mo mt : Nat → Nat) (hd : Nat → Bool) (mg a b : Nat) : Bool := @decide (conn mo mt hd mg a b) (Classical.propDecidable _)
theorem oneB_t {mo mt : Nat → Nat} {hd : Nat → Bool} {mg : Nat} {G : Nat → Int32} {gl : Nat → Nat} (hG : glI mo mt hd mg G gl) (hC : glC mo mt hd mg gl) {a b : Nat} (ha : a < 24) (hb : b < 24) (h : gl a = gl b) : oneB mo mt hd mg a b = true := by
  unfold oneB
  exact @decide_eq_true _ (Classical.propDecidable _) ((gl_conn hG hC ha hb).mp h)
theorem oneB_f {mo mt : Nat → Nat} {hd : Nat → Bool} {mg : Nat} {G : Nat → Int32} {gl : Nat → Nat} (hG : glI mo mt hd mg G gl) (hC : glC mo mt hd mg gl) {a b : Nat} (ha : a < 24) (hb : b < 24) (h : ¬ gl a = gl b) : oneB mo mt hd mg a b = false := by
  unfold oneB
  exact @decide_eq_false _ (Classical.propDecidable _) (fun z => h ((gl_conn hG hC ha hb).mpr z))
theorem holdB_setA {f : Nat → Nat → Int32} {G : Nat → Int32} {dy : Int32} : holdB (setA f 17 G) dy = holdB f dy := by
  funext k
  rw [holdB, holdB, setA_ne (by decide), setA_ne (by decide)]
theorem setA_setA {f : Nat → Nat → Int32} {k : Nat} {R Q : Nat → Int32} : setA (setA f k R) k Q = setA f k Q := by
  funext a
  by_cases e : a = k
  · subst e; rw [setA_self, setA_self]
  · rw [setA_ne e, setA_ne e, setA_ne e]
noncomputable def evP (f : Nat → Nat → Int32) (mo mt : Nat → Nat) (mg a b : Nat) (dy : Int32) : Nat → Bool := fun k => !decide (f 15 k ≤ dy) && oneB mo mt (holdB f (f 15 k)) mg a b
noncomputable def evB (f : Nat → Nat → Int32) (mo mt : Nat → Nat) (mg a b : Nat) (dy : Int32) : Bool := oneB mo mt (holdB f dy) mg a b || anyTo (evP f mo mt mg a b dy) mg
def y_Md_everOne : MethodName := ⟨"NameMergesModel", "everOne", "(III)Z"⟩
abbrev w_Md_everOne : List Cond := Cond.code y_Md_everOne prog_7_method_20_code 6 (Option.some Jvm.ClassFile.FieldType.boolean) :: gw
theorem d_Md_everOne_0 : decode prog_7_method_20_code 0 = .ok (.aload_n 0, 1) := by decide +kernel
theorem d_Md_everOne_1 : decode prog_7_method_20_code 1 = .ok (.iload_n 3, 1) := by decide +kernel
theorem d_Md_everOne_2 : decode prog_7_method_20_code 2 = .ok (.invokevirtual 109, 3) := by decide +kernel
theorem d_Md_everOne_5 : decode prog_7_method_20_code 5 = .ok (.aload_n 0, 1) := by decide +kernel
theorem d_Md_everOne_6 : decode prog_7_method_20_code 6 = .ok (.getfield 62, 3) := by decide +kernel
theorem d_Md_everOne_9 : decode prog_7_method_20_code 9 = .ok (.iload_n 1, 1) := by decide +kernel
theorem d_Md_everOne_10 : decode prog_7_method_20_code 10 = .ok (.iaload, 1) := by decide +kernel
theorem d_Md_everOne_11 : decode prog_7_method_20_code 11 = .ok (.aload_n 0, 1) := by decide +kernel
theorem d_Md_everOne_12 : decode prog_7_method_20_code 12 = .ok (.getfield 62, 3) := by decide +kernel
theorem d_Md_everOne_15 : decode prog_7_method_20_code 15 = .ok (.iload_n 2, 1) := by decide +kernel
theorem d_Md_everOne_16 : decode prog_7_method_20_code 16 = .ok (.iaload, 1) := by decide +kernel
theorem d_Md_everOne_17 : decode prog_7_method_20_code 17 = .ok (.if_icmp .ne 7, 3) := by decide +kernel
theorem d_Md_everOne_20 : decode prog_7_method_20_code 20 = .ok (.iconst 1, 1) := by decide +kernel
theorem d_Md_everOne_21 : decode prog_7_method_20_code 21 = .ok (.goto 4, 3) := by decide +kernel
theorem d_Md_everOne_24 : decode prog_7_method_20_code 24 = .ok (.iconst 0, 1) := by decide +kernel
theorem d_Md_everOne_25 : decode prog_7_method_20_code 25 = .ok (.istore 4, 2) := by decide +kernel
theorem d_Md_everOne_27 : decode prog_7_method_20_code 27 = .ok (.iconst 0, 1) := by decide +kernel
theorem d_Md_everOne_28 : decode prog_7_method_20_code 28 = .ok (.istore 5, 2) := by decide +kernel
theorem d_Md_everOne_30 : decode prog_7_method_20_code 30 = .ok (.iload 5, 2) := by decide +kernel
theorem d_Md_everOne_32 : decode prog_7_method_20_code 32 = .ok (.aload_n 0, 1) := by decide +kernel
theorem d_Md_everOne_33 : decode prog_7_method_20_code 33 = .ok (.getfield 106, 3) := by decide +kernel
theorem d_Md_everOne_36 : decode prog_7_method_20_code 36 = .ok (.if_icmp .ge 58, 3) := by decide +kernel
theorem d_Md_everOne_39 : decode prog_7_method_20_code 39 = .ok (.aload_n 0, 1) := by decide +kernel
theorem d_Md_everOne_40 : decode prog_7_method_20_code 40 = .ok (.getfield 56, 3) := by decide +kernel
theorem d_Md_everOne_43 : decode prog_7_method_20_code 43 = .ok (.iload 5, 2) := by decide +kernel
theorem d_Md_everOne_45 : decode prog_7_method_20_code 45 = .ok (.iaload, 1) := by decide +kernel
theorem d_Md_everOne_46 : decode prog_7_method_20_code 46 = .ok (.iload_n 3, 1) := by decide +kernel
theorem d_Md_everOne_47 : decode prog_7_method_20_code 47 = .ok (.if_icmp .le 41, 3) := by decide +kernel
theorem d_Md_everOne_50 : decode prog_7_method_20_code 50 = .ok (.aload_n 0, 1) := by decide +kernel
theorem d_Md_everOne_51 : decode prog_7_method_20_code 51 = .ok (.aload_n 0, 1) := by decide +kernel
theorem d_Md_everOne_52 : decode prog_7_method_20_code 52 = .ok (.getfield 56, 3) := by decide +kernel
theorem d_Md_everOne_55 : decode prog_7_method_20_code 55 = .ok (.iload 5, 2) := by decide +kernel
theorem d_Md_everOne_57 : decode prog_7_method_20_code 57 = .ok (.iaload, 1) := by decide +kernel
theorem d_Md_everOne_58 : decode prog_7_method_20_code 58 = .ok (.invokevirtual 109, 3) := by decide +kernel
theorem d_Md_everOne_61 : decode prog_7_method_20_code 61 = .ok (.iload 4, 2) := by decide +kernel
theorem d_Md_everOne_63 : decode prog_7_method_20_code 63 = .ok (.ifCond .ne 18, 3) := by decide +kernel
theorem d_Md_everOne_66 : decode prog_7_method_20_code 66 = .ok (.aload_n 0, 1) := by decide +kernel
theorem d_Md_everOne_67 : decode prog_7_method_20_code 67 = .ok (.getfield 62, 3) := by decide +kernel
theorem d_Md_everOne_70 : decode prog_7_method_20_code 70 = .ok (.iload_n 1, 1) := by decide +kernel
theorem d_Md_everOne_71 : decode prog_7_method_20_code 71 = .ok (.iaload, 1) := by decide +kernel
theorem d_Md_everOne_72 : decode prog_7_method_20_code 72 = .ok (.aload_n 0, 1) := by decide +kernel
theorem d_Md_everOne_73 : decode prog_7_method_20_code 73 = .ok (.getfield 62, 3) := by decide +kernel
theorem d_Md_everOne_76 : decode prog_7_method_20_code 76 = .ok (.iload_n 2, 1) := by decide +kernel
theorem d_Md_everOne_77 : decode prog_7_method_20_code 77 = .ok (.iaload, 1) := by decide +kernel
theorem d_Md_everOne_78 : decode prog_7_method_20_code 78 = .ok (.if_icmp .ne 7, 3) := by decide +kernel
theorem d_Md_everOne_81 : decode prog_7_method_20_code 81 = .ok (.iconst 1, 1) := by decide +kernel
theorem d_Md_everOne_82 : decode prog_7_method_20_code 82 = .ok (.goto 4, 3) := by decide +kernel
theorem d_Md_everOne_85 : decode prog_7_method_20_code 85 = .ok (.iconst 0, 1) := by decide +kernel
theorem d_Md_everOne_86 : decode prog_7_method_20_code 86 = .ok (.istore 4, 2) := by decide +kernel
theorem d_Md_everOne_88 : decode prog_7_method_20_code 88 = .ok (.iinc 5 1, 3) := by decide +kernel
theorem d_Md_everOne_91 : decode prog_7_method_20_code 91 = .ok (.goto (-61), 3) := by decide +kernel
theorem d_Md_everOne_94 : decode prog_7_method_20_code 94 = .ok (.iload 4, 2) := by decide +kernel
theorem d_Md_everOne_96 : decode prog_7_method_20_code 96 = .ok (.ireturn, 1) := by decide +kernel
set_option maxHeartbeats 4000000 in
set_option maxRecDepth 100000 in
theorem c_Md_everOne (l : Launch) (D : va_G) (cs : Nat → ClassId) (N0 : Nat) (H : Heap) (x : Nat) (g : Nat → Nat) (i : Nat → Int32) (f : Nat → Nat → Int32) (a b : Nat) (dy : Int32) (hsep : md_sep N0 x g) (hI : md_I D cs H x g i f) (mg : Nat) (hmg : i 3 = nI mg) (hmg60 : mg ≤ 60) (mo mt : Nat → Nat) (hone : ∀ k, k < mg → f 13 k = nI (mo k) ∧ mo k < 24) (hoth : ∀ k, k < mg → f 14 k = nI (mt k) ∧ mt k < 24) (ha : a < 24) (hb1 : b < 24) : Met l y_Md_everOne w_Md_everOne ({ frames := 1, cells := 0, slots := 0, locals := 25 }) (hPre D cs N0 [.ref x, .int (nI a), .int (nI b), .int dy] H) (hQi (fun r H' => ∃ G : Nat → Int32, md_I D cs H' x g i (setA f 17 G) ∧ r = bI (evB f mo mt mg a b dy)) (md_A x g)) 0 0 (md_A x g) := by
  refine Met.ofW (cc := prog_7_method_20_code) (maxL := 6) (ret := (Option.some Jvm.ClassFile.FieldType.boolean)) (by decide) rfl ?_
  intro p e s m args below meth c s₁ B hml hv
  obtain ⟨rfl, rfl, hB⟩ := hv
  have hx := B.exec
  have hb := B.bytes
  have hr := B.returns
  have hts := atoms_spec (ws := w_Md_everOne) B.pre
  have htg : ∀ w ∈ gw, w.before _ s = true := fun w h => hts w (List.mem_cons_of_mem _ h)
  have hown : s.vm.findClass "NameMergesModel" = some m.cls := findClass_of_methodNamed B.named
  have hlocks := B.notSynchronized
  have hK := hB.1
  have hS : va_S (md_A x g) s.heap s.heap [] := va_S.rf
  obtain ⟨H, hH⟩ : ∃ z : Heap, z = s.heap := ⟨_, rfl⟩
  rw [← hH] at hI
  have hS : va_S (md_A x g) s.heap H [] := by rw [hH]; exact va_S.rf
  have hl := lv_entry ([.ref x, .int (nI a), .int (nI b), .int dy]) (n := 6) (Nat.le_of_ble_eq_true rfl)
  rw [lg_entry_eq, ← hH]
  generalize (lg_sl ([.ref x, .int (nI a), .int (nI b), .int dy]) ++ List.replicate (6 - (lg_sl ([.ref x, .int (nI a), .int (nI b), .int dy])).length) Slot.unset).toArray = ls at hl ⊢
  have hl : lv_has ls 6 [(0, .ref x), (1, .int (nI a)), (2, .int (nI b)), (3, .int dy)] := hl
  refine lv_aload_n hx hb d_Md_everOne_0 rfl (lv_at hl 0 rfl) ?_
  refine lv_iload_n hx hb d_Md_everOne_1 rfl (lv_at hl 3 rfl) ?_
  refine h_callv (va_runV (As := [.int dy]) (rest := []) ⟨hx, hb, hml, hown, htg⟩ (c_Md_join l D cs N0 H x g i f dy hsep hI mg hmg hmg60 mo mt hone hoth) (cwV 1 htg (gw_V (gw_mem (i := 1136) (by decide +kernel) rfl) (gw_mem (i := 1138) (by decide +kernel) rfl) (gw_mem (i := 22) (by decide +kernel) rfl) (gw_mem (i := 38) (by decide +kernel) rfl) (gw_mem (i := 1139) (by decide +kernel) rfl)) rfl rfl rfl (by decide +kernel) ⟨Nat.le_of_ble_eq_true rfl, Nat.le_of_ble_eq_true rfl⟩) ⟨hPre.blind, hx_recv hK (ci := 0) rfl hI.1, hPre.at hB hS hsep.A⟩ rfl rfl hl.1 rfl (lv_room (Nat.le_of_ble_eq_true rfl)) d_Md_everOne_2 ⟨Nat.zero_le _, Nat.zero_le _⟩) hS (fun _ h => h) (fun  H locs hp hz hk hS => ?_)
  obtain ⟨G, gl, hI, hGgl, hCgl⟩ := hp
  refine lv_aload_n hx hb d_Md_everOne_5 rfl (lv_at hl 0 rfl) ?_
  refine hx_get (v := .ref (g 17)) hx hb htg iMd hown hK hI.1 rfl 21 (by decide) (htg _ (gw_mem (i := 1019) (by decide +kernel) rfl)) (fun _ h9 => h9) rfl d_Md_everOne_6 ?_
  refine lv_iload_n hx hb d_Md_everOne_9 rfl (lv_at hl 1 rfl) ?_
  have hga := (hGgl a ha).2.1
  have hgb := (hGgl b hb1).2.1
  refine hx_iald hx hb hK 0 (hI.2 17 (by decide)) rfl (show vp_in (nI a) 24 from vp_in_nI (n := a) (by omega) (by decide)) d_Md_everOne_10 ?_
  refine lv_eqi (y := ((setA f 17 G) 17 a)) (show (setA f 17 G) 17 (nI a).toNatClampNeg = _ by rw [nI_clamp (by omega)]) ?_
  refine lv_eqi (y := (nI (gl a))) (by rw [setA_self]; exact (hGgl a ha).1) ?_
  refine lv_aload_n hx hb d_Md_everOne_11 rfl (lv_at hl 0 rfl) ?_
  refine hx_get (v := .ref (g 17)) hx hb htg iMd hown hK hI.1 rfl 21 (by decide) (htg _ (gw_mem (i := 1019) (by decide +kernel) rfl)) (fun _ h9 => h9) rfl d_Md_everOne_12 ?_
  refine lv_iload_n hx hb d_Md_everOne_15 rfl (lv_at hl 2 rfl) ?_
  refine hx_iald hx hb hK 0 (hI.2 17 (by decide)) rfl (show vp_in (nI b) 24 from vp_in_nI (n := b) (by omega) (by decide)) d_Md_everOne_16 ?_
  refine lv_eqi (y := ((setA f 17 G) 17 b)) (show (setA f 17 G) 17 (nI b).toNatClampNeg = _ by rw [nI_clamp (by omega)]) ?_
  refine lv_eqi (y := (nI (gl b))) (by rw [setA_self]; exact (hGgl b hb1).1) ?_
  refine lv_icmp_ne (x := (nI (gl a))) (y := (nI (gl b))) (tgt := 24) hx hb d_Md_everOne_17 (by decide) (fun c17 => ?_) (fun c17 => ?_)
  · skip
    replace c17 : ¬ ((gl a) = (gl b)) := fun z9 => c17 ((nI_eq (a := (gl a)) (b := (gl b)) (by omega) (by omega)).mpr z9)
    refine lv_iconst (v := 0) hx hb d_Md_everOne_24 (by decide) ?_
    refine lv_istore (lv' := [(4, .int 0), (0, .ref x), (1, .int (nI a)), (2, .int (nI b)), (3, .int dy)]) hx hb d_Md_everOne_25 hl (by decide) rfl (fun ls hl => ?_)
    refine lv_iconst (v := 0) hx hb d_Md_everOne_27 (by decide) ?_
    refine lv_istore (lv' := [(5, .int 0), (4, .int 0), (0, .ref x), (1, .int (nI a)), (2, .int (nI b)), (3, .int dy)]) hx hb d_Md_everOne_28 hl (by decide) rfl (fun ls hl => ?_)
    have loop30 : ∀ (fuel : Nat) (G2 : Nat → Int32) (z : Bool) (k : Nat), mg - k < fuel → (k ≤ mg) → ((oneB mo mt (holdB f dy) mg a b || anyTo (evP f mo mt mg a b dy) k) = z) → ∀ (H : Heap) (locs : List Loc), md_I D cs H x g i (setA f 17 G2) → va_S (md_A x g) s.heap H locs → ∀ (ls : Array Slot), lv_has ls 6 [(0, .ref x), (1, .int (nI a)), (2, .int (nI b)), (3, .int dy), (4, .int (bI z)), (5, .int (nI k))] → W p l e (headSpec w_Md_everOne ({ frames := 1, cells := 0, slots := 0, locals := 25 })).room s m ([.ref x, .int (nI a), .int (nI b), .int dy] : List Value).toArray below meth c H locs 0 0 (MQ below (hQi (fun r H' => ∃ G : Nat → Int32, md_I D cs H' x g i (setA f 17 G) ∧ r = bI (evB f mo mt mg a b dy)) (md_A x g)) ([.ref x, .int (nI a), .int (nI b), .int dy] : List Value).toArray s 0 0 (md_A x g)) (F0 m 30 ls []) := by
      intro fuel30
      induction fuel30 with
      | zero => intro G2 z k hn; exact absurd hn (Nat.not_lt_zero _)
      | succ fuel30 ih30 =>
        intro G2 z k hn30 hk hz9 H locs hI hS ls hl
        refine lv_iload hx hb d_Md_everOne_30 (lv_at hl 5 rfl) ?_
        refine lv_aload_n hx hb d_Md_everOne_32 rfl (lv_at hl 0 rfl) ?_
        refine hx_get (v := .int (i 3)) hx hb htg iMd hown hK hI.1 rfl 16 (by decide) (htg _ (gw_mem (i := 1014) (by decide +kernel) rfl)) (fun _ h9 => h9) rfl d_Md_everOne_33 ?_
        refine lv_eqi (y := (nI mg)) hmg ?_
        refine lv_icmp_ge (x := (nI k)) (y := (nI mg)) (tgt := 94) hx hb d_Md_everOne_36 (by decide) (fun c36 => ?_) (fun c36 => ?_)
        · skip
          replace c36 : mg ≤ k := (nI_leI (a := mg) (b := k) (by omega) (by omega)).mp c36
          refine lv_iload hx hb d_Md_everOne_94 (lv_at hl 4 rfl) ?_
          exact W.zret (v := (bI z)) hx hb hr (bI_z _) (fun t ht hW => ⟨⟨(bI z), H, rfl, ⟨G2, hI, by have e9 : k = mg := (by omega); subst e9; rw [evB, hz9]⟩, ht⟩, hS.F ht⟩) hS.2.2 d_Md_everOne_96
        · skip
          replace c36 : ¬ (mg ≤ k) := fun z9 => c36 ((nI_leI (a := mg) (b := k) (by omega) (by omega)).mpr z9)
          refine lv_aload_n hx hb d_Md_everOne_39 rfl (lv_at hl 0 rfl) ?_
          refine hx_get (v := .ref (g 15)) hx hb htg iMd hown hK hI.1 rfl 19 (by decide) (htg _ (gw_mem (i := 1017) (by decide +kernel) rfl)) (fun _ h9 => h9) rfl d_Md_everOne_40 ?_
          refine lv_iload hx hb d_Md_everOne_43 (lv_at hl 5 rfl) ?_
          refine hx_iald hx hb hK 0 (hI.2 15 (by decide)) rfl (show vp_in (nI k) 60 from vp_in_nI (n := k) (by omega) (by decide)) d_Md_everOne_45 ?_
          refine lv_eqi (y := ((setA f 17 G2) 15 k)) (show (setA f 17 G2) 15 (nI k).toNatClampNeg = _ by rw [nI_clamp (by omega)]) ?_
          refine lv_eqi (y := (f 15 k)) (by rw [setA_ne (by decide)]) ?_
          refine lv_iload_n hx hb d_Md_everOne_46 rfl (lv_at hl 3 rfl) ?_
          refine lv_icmp_le (x := (f 15 k)) (y := dy) (tgt := 88) hx hb d_Md_everOne_47 (by decide) (fun c47 => ?_) (fun c47 => ?_)
          · skip
            refine lv_iinc (v := (nI (k + 1))) (lv' := [(5, .int (nI (k + 1))), (0, .ref x), (1, .int (nI a)), (2, .int (nI b)), (3, .int dy), (4, .int (bI z))]) hx hb d_Md_everOne_88 hl (k := 5) rfl (nI_1 k) (by decide) rfl (fun ls hl => ?_)
            refine lv_goto (tgt := 30) hx hb d_Md_everOne_91 (by decide) ?_
            exact ih30  _ z (k + 1) (by omega) (by omega) (by rw [anyTo, ← Bool.or_assoc, hz9]; simp [evP, c47]) _ _ hI hS ls (lv_sub hl [1, 2, 3, 4, 5, 0] rfl)
          · skip
            refine lv_aload_n hx hb d_Md_everOne_50 rfl (lv_at hl 0 rfl) ?_
            refine lv_aload_n hx hb d_Md_everOne_51 rfl (lv_at hl 0 rfl) ?_
            refine hx_get (v := .ref (g 15)) hx hb htg iMd hown hK hI.1 rfl 19 (by decide) (htg _ (gw_mem (i := 1017) (by decide +kernel) rfl)) (fun _ h9 => h9) rfl d_Md_everOne_52 ?_
            refine lv_iload hx hb d_Md_everOne_55 (lv_at hl 5 rfl) ?_
            refine hx_iald hx hb hK 0 (hI.2 15 (by decide)) rfl (show vp_in (nI k) 60 from vp_in_nI (n := k) (by omega) (by decide)) d_Md_everOne_57 ?_
            refine lv_eqi (y := ((setA f 17 G2) 15 k)) (show (setA f 17 G2) 15 (nI k).toNatClampNeg = _ by rw [nI_clamp (by omega)]) ?_
            refine lv_eqi (y := (f 15 k)) (by rw [setA_ne (by decide)]) ?_
            refine h_callv (va_runV (As := [.int (f 15 k)]) (rest := []) ⟨hx, hb, hml, hown, htg⟩ (c_Md_join l D cs N0 H x g i ((setA f 17 G2)) ((f 15 k)) hsep hI mg hmg hmg60 mo mt (fun k hk => by rw [setA_ne (by decide)]; exact hone k hk) (fun k hk => by rw [setA_ne (by decide)]; exact hoth k hk)) (cwV 1 htg (gw_V (gw_mem (i := 1136) (by decide +kernel) rfl) (gw_mem (i := 1138) (by decide +kernel) rfl) (gw_mem (i := 22) (by decide +kernel) rfl) (gw_mem (i := 38) (by decide +kernel) rfl) (gw_mem (i := 1139) (by decide +kernel) rfl)) rfl rfl rfl (by decide +kernel) ⟨Nat.le_of_ble_eq_true rfl, Nat.le_of_ble_eq_true rfl⟩) ⟨hPre.blind, hx_recv hK (ci := 0) rfl hI.1, hPre.at hB hS hsep.A⟩ rfl rfl hl.1 rfl (lv_room (Nat.le_of_ble_eq_true rfl)) d_Md_everOne_58 ⟨Nat.zero_le _, Nat.zero_le _⟩) hS (fun _ h => h) (fun  H locs hp hz hk hS => ?_)
            obtain ⟨G3, gl2, hI, hGgl2, hCgl2⟩ := hp
            rw [setA_setA] at hI
            rw [holdB_setA] at hGgl2 hCgl2
            have hga := (hGgl2 a ha).2.1
            have hgb := (hGgl2 b hb1).2.1
            refine lv_iload hx hb d_Md_everOne_61 (lv_at hl 4 rfl) ?_
            refine lv_if_ne (x := (bI z)) (tgt := 81) hx hb d_Md_everOne_63 (by decide) (fun c63 => ?_) (fun c63 => ?_)
            · skip
              replace c63 : z = true := bI_1 c63
              refine lv_iconst (v := 1) hx hb d_Md_everOne_81 (by decide) ?_
              refine lv_goto (tgt := 86) hx hb d_Md_everOne_82 (by decide) ?_
              refine lv_istore (lv' := [(4, .int 1), (0, .ref x), (1, .int (nI a)), (2, .int (nI b)), (3, .int dy), (5, .int (nI k))]) hx hb d_Md_everOne_86 hl (by decide) rfl (fun ls hl => ?_)
              refine lv_iinc (v := (nI (k + 1))) (lv' := [(5, .int (nI (k + 1))), (4, .int 1), (0, .ref x), (1, .int (nI a)), (2, .int (nI b)), (3, .int dy)]) hx hb d_Md_everOne_88 hl (k := 5) rfl (nI_1 k) (by decide) rfl (fun ls hl => ?_)
              refine lv_goto (tgt := 30) hx hb d_Md_everOne_91 (by decide) ?_
              exact ih30  _ true (k + 1) (by omega) (by omega) (by rw [anyTo, ← Bool.or_assoc, hz9]; simp [evP, c47, c63]) _ _ hI hS ls (lv_sub hl [2, 3, 4, 5, 1, 0] rfl)
            · skip
              replace c63 : z = false := bI_0 c63
              refine lv_aload_n hx hb d_Md_everOne_66 rfl (lv_at hl 0 rfl) ?_
              refine hx_get (v := .ref (g 17)) hx hb htg iMd hown hK hI.1 rfl 21 (by decide) (htg _ (gw_mem (i := 1019) (by decide +kernel) rfl)) (fun _ h9 => h9) rfl d_Md_everOne_67 ?_
              refine lv_iload_n hx hb d_Md_everOne_70 rfl (lv_at hl 1 rfl) ?_
              refine hx_iald hx hb hK 0 (hI.2 17 (by decide)) rfl (show vp_in (nI a) 24 from vp_in_nI (n := a) (by omega) (by decide)) d_Md_everOne_71 ?_
              refine lv_eqi (y := ((setA f 17 G3) 17 a)) (show (setA f 17 G3) 17 (nI a).toNatClampNeg = _ by rw [nI_clamp (by omega)]) ?_
              refine lv_eqi (y := (nI (gl2 a))) (by rw [setA_self]; exact (hGgl2 a ha).1) ?_
              refine lv_aload_n hx hb d_Md_everOne_72 rfl (lv_at hl 0 rfl) ?_
              refine hx_get (v := .ref (g 17)) hx hb htg iMd hown hK hI.1 rfl 21 (by decide) (htg _ (gw_mem (i := 1019) (by decide +kernel) rfl)) (fun _ h9 => h9) rfl d_Md_everOne_73 ?_
              refine lv_iload_n hx hb d_Md_everOne_76 rfl (lv_at hl 2 rfl) ?_
              refine hx_iald hx hb hK 0 (hI.2 17 (by decide)) rfl (show vp_in (nI b) 24 from vp_in_nI (n := b) (by omega) (by decide)) d_Md_everOne_77 ?_
              refine lv_eqi (y := ((setA f 17 G3) 17 b)) (show (setA f 17 G3) 17 (nI b).toNatClampNeg = _ by rw [nI_clamp (by omega)]) ?_
              refine lv_eqi (y := (nI (gl2 b))) (by rw [setA_self]; exact (hGgl2 b hb1).1) ?_
              refine lv_icmp_ne (x := (nI (gl2 a))) (y := (nI (gl2 b))) (tgt := 85) hx hb d_Md_everOne_78 (by decide) (fun c78 => ?_) (fun c78 => ?_)
              · skip
                replace c78 : ¬ ((gl2 a) = (gl2 b)) := fun z9 => c78 ((nI_eq (a := (gl2 a)) (b := (gl2 b)) (by omega) (by omega)).mpr z9)
                refine lv_iconst (v := 0) hx hb d_Md_everOne_85 (by decide) ?_
                refine lv_istore (lv' := [(4, .int 0), (0, .ref x), (1, .int (nI a)), (2, .int (nI b)), (3, .int dy), (5, .int (nI k))]) hx hb d_Md_everOne_86 hl (by decide) rfl (fun ls hl => ?_)
                refine lv_iinc (v := (nI (k + 1))) (lv' := [(5, .int (nI (k + 1))), (4, .int 0), (0, .ref x), (1, .int (nI a)), (2, .int (nI b)), (3, .int dy)]) hx hb d_Md_everOne_88 hl (k := 5) rfl (nI_1 k) (by decide) rfl (fun ls hl => ?_)
                refine lv_goto (tgt := 30) hx hb d_Md_everOne_91 (by decide) ?_
                exact ih30  _ false (k + 1) (by omega) (by omega) (by rw [anyTo, ← Bool.or_assoc, hz9]; simp [evP, c47, c63, oneB_f hGgl2 hCgl2 ha hb1 c78]) _ _ hI hS ls (lv_sub hl [2, 3, 4, 5, 1, 0] rfl)
              · skip
                replace c78 : (gl2 a) = (gl2 b) := (nI_eq (a := (gl2 a)) (b := (gl2 b)) (by omega) (by omega)).mp c78
                refine lv_iconst (v := 1) hx hb d_Md_everOne_81 (by decide) ?_
                refine lv_goto (tgt := 86) hx hb d_Md_everOne_82 (by decide) ?_
                refine lv_istore (lv' := [(4, .int 1), (0, .ref x), (1, .int (nI a)), (2, .int (nI b)), (3, .int dy), (5, .int (nI k))]) hx hb d_Md_everOne_86 hl (by decide) rfl (fun ls hl => ?_)
                refine lv_iinc (v := (nI (k + 1))) (lv' := [(5, .int (nI (k + 1))), (4, .int 1), (0, .ref x), (1, .int (nI a)), (2, .int (nI b)), (3, .int dy)]) hx hb d_Md_everOne_88 hl (k := 5) rfl (nI_1 k) (by decide) rfl (fun ls hl => ?_)
                refine lv_goto (tgt := 30) hx hb d_Md_everOne_91 (by decide) ?_
                exact ih30  _ true (k + 1) (by omega) (by omega) (by rw [anyTo, ← Bool.or_assoc, hz9]; simp [evP, c47, c63, oneB_t hGgl2 hCgl2 ha hb1 c78]) _ _ hI hS ls (lv_sub hl [2, 3, 4, 5, 1, 0] rfl)
    exact loop30 ((mg - 0) + 1) _ false 0 (Nat.lt_succ_self _) (Nat.zero_le _) (by rw [oneB_f hGgl hCgl ha hb1 c17]; simp [anyTo]) _ _ hI hS ls (lv_sub hl [2, 3, 4, 5, 1, 0] rfl)
  · skip
    replace c17 : (gl a) = (gl b) := (nI_eq (a := (gl a)) (b := (gl b)) (by omega) (by omega)).mp c17
    refine lv_iconst (v := 1) hx hb d_Md_everOne_20 (by decide) ?_
    refine lv_goto (tgt := 25) hx hb d_Md_everOne_21 (by decide) ?_
    refine lv_istore (lv' := [(4, .int 1), (0, .ref x), (1, .int (nI a)), (2, .int (nI b)), (3, .int dy)]) hx hb d_Md_everOne_25 hl (by decide) rfl (fun ls hl => ?_)
    refine lv_iconst (v := 0) hx hb d_Md_everOne_27 (by decide) ?_
    refine lv_istore (lv' := [(5, .int 0), (4, .int 1), (0, .ref x), (1, .int (nI a)), (2, .int (nI b)), (3, .int dy)]) hx hb d_Md_everOne_28 hl (by decide) rfl (fun ls hl => ?_)
    have loop30 : ∀ (fuel : Nat) (G2 : Nat → Int32) (z : Bool) (k : Nat), mg - k < fuel → (k ≤ mg) → ((oneB mo mt (holdB f dy) mg a b || anyTo (evP f mo mt mg a b dy) k) = z) → ∀ (H : Heap) (locs : List Loc), md_I D cs H x g i (setA f 17 G2) → va_S (md_A x g) s.heap H locs → ∀ (ls : Array Slot), lv_has ls 6 [(0, .ref x), (1, .int (nI a)), (2, .int (nI b)), (3, .int dy), (4, .int (bI z)), (5, .int (nI k))] → W p l e (headSpec w_Md_everOne ({ frames := 1, cells := 0, slots := 0, locals := 25 })).room s m ([.ref x, .int (nI a), .int (nI b), .int dy] : List Value).toArray below meth c H locs 0 0 (MQ below (hQi (fun r H' => ∃ G : Nat → Int32, md_I D cs H' x g i (setA f 17 G) ∧ r = bI (evB f mo mt mg a b dy)) (md_A x g)) ([.ref x, .int (nI a), .int (nI b), .int dy] : List Value).toArray s 0 0 (md_A x g)) (F0 m 30 ls []) := by
      intro fuel30
      induction fuel30 with
      | zero => intro G2 z k hn; exact absurd hn (Nat.not_lt_zero _)
      | succ fuel30 ih30 =>
        intro G2 z k hn30 hk hz9 H locs hI hS ls hl
        refine lv_iload hx hb d_Md_everOne_30 (lv_at hl 5 rfl) ?_
        refine lv_aload_n hx hb d_Md_everOne_32 rfl (lv_at hl 0 rfl) ?_
        refine hx_get (v := .int (i 3)) hx hb htg iMd hown hK hI.1 rfl 16 (by decide) (htg _ (gw_mem (i := 1014) (by decide +kernel) rfl)) (fun _ h9 => h9) rfl d_Md_everOne_33 ?_
        refine lv_eqi (y := (nI mg)) hmg ?_
        refine lv_icmp_ge (x := (nI k)) (y := (nI mg)) (tgt := 94) hx hb d_Md_everOne_36 (by decide) (fun c36 => ?_) (fun c36 => ?_)
        · skip
          replace c36 : mg ≤ k := (nI_leI (a := mg) (b := k) (by omega) (by omega)).mp c36
          refine lv_iload hx hb d_Md_everOne_94 (lv_at hl 4 rfl) ?_
          exact W.zret (v := (bI z)) hx hb hr (bI_z _) (fun t ht hW => ⟨⟨(bI z), H, rfl, ⟨G2, hI, by have e9 : k = mg := (by omega); subst e9; rw [evB, hz9]⟩, ht⟩, hS.F ht⟩) hS.2.2 d_Md_everOne_96
        · skip
          replace c36 : ¬ (mg ≤ k) := fun z9 => c36 ((nI_leI (a := mg) (b := k) (by omega) (by omega)).mpr z9)
          refine lv_aload_n hx hb d_Md_everOne_39 rfl (lv_at hl 0 rfl) ?_
          refine hx_get (v := .ref (g 15)) hx hb htg iMd hown hK hI.1 rfl 19 (by decide) (htg _ (gw_mem (i := 1017) (by decide +kernel) rfl)) (fun _ h9 => h9) rfl d_Md_everOne_40 ?_
          refine lv_iload hx hb d_Md_everOne_43 (lv_at hl 5 rfl) ?_
          refine hx_iald hx hb hK 0 (hI.2 15 (by decide)) rfl (show vp_in (nI k) 60 from vp_in_nI (n := k) (by omega) (by decide)) d_Md_everOne_45 ?_
          refine lv_eqi (y := ((setA f 17 G2) 15 k)) (show (setA f 17 G2) 15 (nI k).toNatClampNeg = _ by rw [nI_clamp (by omega)]) ?_
          refine lv_eqi (y := (f 15 k)) (by rw [setA_ne (by decide)]) ?_
          refine lv_iload_n hx hb d_Md_everOne_46 rfl (lv_at hl 3 rfl) ?_
          refine lv_icmp_le (x := (f 15 k)) (y := dy) (tgt := 88) hx hb d_Md_everOne_47 (by decide) (fun c47 => ?_) (fun c47 => ?_)
          · skip
            refine lv_iinc (v := (nI (k + 1))) (lv' := [(5, .int (nI (k + 1))), (0, .ref x), (1, .int (nI a)), (2, .int (nI b)), (3, .int dy), (4, .int (bI z))]) hx hb d_Md_everOne_88 hl (k := 5) rfl (nI_1 k) (by decide) rfl (fun ls hl => ?_)
            refine lv_goto (tgt := 30) hx hb d_Md_everOne_91 (by decide) ?_
            exact ih30  _ z (k + 1) (by omega) (by omega) (by rw [anyTo, ← Bool.or_assoc, hz9]; simp [evP, c47]) _ _ hI hS ls (lv_sub hl [1, 2, 3, 4, 5, 0] rfl)
          · skip
            refine lv_aload_n hx hb d_Md_everOne_50 rfl (lv_at hl 0 rfl) ?_
            refine lv_aload_n hx hb d_Md_everOne_51 rfl (lv_at hl 0 rfl) ?_
            refine hx_get (v := .ref (g 15)) hx hb htg iMd hown hK hI.1 rfl 19 (by decide) (htg _ (gw_mem (i := 1017) (by decide +kernel) rfl)) (fun _ h9 => h9) rfl d_Md_everOne_52 ?_
            refine lv_iload hx hb d_Md_everOne_55 (lv_at hl 5 rfl) ?_
            refine hx_iald hx hb hK 0 (hI.2 15 (by decide)) rfl (show vp_in (nI k) 60 from vp_in_nI (n := k) (by omega) (by decide)) d_Md_everOne_57 ?_
            refine lv_eqi (y := ((setA f 17 G2) 15 k)) (show (setA f 17 G2) 15 (nI k).toNatClampNeg = _ by rw [nI_clamp (by omega)]) ?_
            refine lv_eqi (y := (f 15 k)) (by rw [setA_ne (by decide)]) ?_
            refine h_callv (va_runV (As := [.int (f 15 k)]) (rest := []) ⟨hx, hb, hml, hown, htg⟩ (c_Md_join l D cs N0 H x g i ((setA f 17 G2)) ((f 15 k)) hsep hI mg hmg hmg60 mo mt (fun k hk => by rw [setA_ne (by decide)]; exact hone k hk) (fun k hk => by rw [setA_ne (by decide)]; exact hoth k hk)) (cwV 1 htg (gw_V (gw_mem (i := 1136) (by decide +kernel) rfl) (gw_mem (i := 1138) (by decide +kernel) rfl) (gw_mem (i := 22) (by decide +kernel) rfl) (gw_mem (i := 38) (by decide +kernel) rfl) (gw_mem (i := 1139) (by decide +kernel) rfl)) rfl rfl rfl (by decide +kernel) ⟨Nat.le_of_ble_eq_true rfl, Nat.le_of_ble_eq_true rfl⟩) ⟨hPre.blind, hx_recv hK (ci := 0) rfl hI.1, hPre.at hB hS hsep.A⟩ rfl rfl hl.1 rfl (lv_room (Nat.le_of_ble_eq_true rfl)) d_Md_everOne_58 ⟨Nat.zero_le _, Nat.zero_le _⟩) hS (fun _ h => h) (fun  H locs hp hz hk hS => ?_)
            obtain ⟨G3, gl2, hI, hGgl2, hCgl2⟩ := hp
            rw [setA_setA] at hI
            rw [holdB_setA] at hGgl2 hCgl2
            have hga := (hGgl2 a ha).2.1
            have hgb := (hGgl2 b hb1).2.1
            refine lv_iload hx hb d_Md_everOne_61 (lv_at hl 4 rfl) ?_
            refine lv_if_ne (x := (bI z)) (tgt := 81) hx hb d_Md_everOne_63 (by decide) (fun c63 => ?_) (fun c63 => ?_)
            · skip
              replace c63 : z = true := bI_1 c63
              refine lv_iconst (v := 1) hx hb d_Md_everOne_81 (by decide) ?_
              refine lv_goto (tgt := 86) hx hb d_Md_everOne_82 (by decide) ?_
              refine lv_istore (lv' := [(4, .int 1), (0, .ref x), (1, .int (nI a)), (2, .int (nI b)), (3, .int dy), (5, .int (nI k))]) hx hb d_Md_everOne_86 hl (by decide) rfl (fun ls hl => ?_)
              refine lv_iinc (v := (nI (k + 1))) (lv' := [(5, .int (nI (k + 1))), (4, .int 1), (0, .ref x), (1, .int (nI a)), (2, .int (nI b)), (3, .int dy)]) hx hb d_Md_everOne_88 hl (k := 5) rfl (nI_1 k) (by decide) rfl (fun ls hl => ?_)
              refine lv_goto (tgt := 30) hx hb d_Md_everOne_91 (by decide) ?_
              exact ih30  _ true (k + 1) (by omega) (by omega) (by rw [anyTo, ← Bool.or_assoc, hz9]; simp [evP, c47, c63]) _ _ hI hS ls (lv_sub hl [2, 3, 4, 5, 1, 0] rfl)
            · skip
              replace c63 : z = false := bI_0 c63
              refine lv_aload_n hx hb d_Md_everOne_66 rfl (lv_at hl 0 rfl) ?_
              refine hx_get (v := .ref (g 17)) hx hb htg iMd hown hK hI.1 rfl 21 (by decide) (htg _ (gw_mem (i := 1019) (by decide +kernel) rfl)) (fun _ h9 => h9) rfl d_Md_everOne_67 ?_
              refine lv_iload_n hx hb d_Md_everOne_70 rfl (lv_at hl 1 rfl) ?_
              refine hx_iald hx hb hK 0 (hI.2 17 (by decide)) rfl (show vp_in (nI a) 24 from vp_in_nI (n := a) (by omega) (by decide)) d_Md_everOne_71 ?_
              refine lv_eqi (y := ((setA f 17 G3) 17 a)) (show (setA f 17 G3) 17 (nI a).toNatClampNeg = _ by rw [nI_clamp (by omega)]) ?_
              refine lv_eqi (y := (nI (gl2 a))) (by rw [setA_self]; exact (hGgl2 a ha).1) ?_
              refine lv_aload_n hx hb d_Md_everOne_72 rfl (lv_at hl 0 rfl) ?_
              refine hx_get (v := .ref (g 17)) hx hb htg iMd hown hK hI.1 rfl 21 (by decide) (htg _ (gw_mem (i := 1019) (by decide +kernel) rfl)) (fun _ h9 => h9) rfl d_Md_everOne_73 ?_
              refine lv_iload_n hx hb d_Md_everOne_76 rfl (lv_at hl 2 rfl) ?_
              refine hx_iald hx hb hK 0 (hI.2 17 (by decide)) rfl (show vp_in (nI b) 24 from vp_in_nI (n := b) (by omega) (by decide)) d_Md_everOne_77 ?_
              refine lv_eqi (y := ((setA f 17 G3) 17 b)) (show (setA f 17 G3) 17 (nI b).toNatClampNeg = _ by rw [nI_clamp (by omega)]) ?_
              refine lv_eqi (y := (nI (gl2 b))) (by rw [setA_self]; exact (hGgl2 b hb1).1) ?_
              refine lv_icmp_ne (x := (nI (gl2 a))) (y := (nI (gl2 b))) (tgt := 85) hx hb d_Md_everOne_78 (by decide) (fun c78 => ?_) (fun c78 => ?_)
              · skip
                replace c78 : ¬ ((gl2 a) = (gl2 b)) := fun z9 => c78 ((nI_eq (a := (gl2 a)) (b := (gl2 b)) (by omega) (by omega)).mpr z9)
                refine lv_iconst (v := 0) hx hb d_Md_everOne_85 (by decide) ?_
                refine lv_istore (lv' := [(4, .int 0), (0, .ref x), (1, .int (nI a)), (2, .int (nI b)), (3, .int dy), (5, .int (nI k))]) hx hb d_Md_everOne_86 hl (by decide) rfl (fun ls hl => ?_)
                refine lv_iinc (v := (nI (k + 1))) (lv' := [(5, .int (nI (k + 1))), (4, .int 0), (0, .ref x), (1, .int (nI a)), (2, .int (nI b)), (3, .int dy)]) hx hb d_Md_everOne_88 hl (k := 5) rfl (nI_1 k) (by decide) rfl (fun ls hl => ?_)
                refine lv_goto (tgt := 30) hx hb d_Md_everOne_91 (by decide) ?_
                exact ih30  _ false (k + 1) (by omega) (by omega) (by rw [anyTo, ← Bool.or_assoc, hz9]; simp [evP, c47, c63, oneB_f hGgl2 hCgl2 ha hb1 c78]) _ _ hI hS ls (lv_sub hl [2, 3, 4, 5, 1, 0] rfl)
              · skip
                replace c78 : (gl2 a) = (gl2 b) := (nI_eq (a := (gl2 a)) (b := (gl2 b)) (by omega) (by omega)).mp c78
                refine lv_iconst (v := 1) hx hb d_Md_everOne_81 (by decide) ?_
                refine lv_goto (tgt := 86) hx hb d_Md_everOne_82 (by decide) ?_
                refine lv_istore (lv' := [(4, .int 1), (0, .ref x), (1, .int (nI a)), (2, .int (nI b)), (3, .int dy), (5, .int (nI k))]) hx hb d_Md_everOne_86 hl (by decide) rfl (fun ls hl => ?_)
                refine lv_iinc (v := (nI (k + 1))) (lv' := [(5, .int (nI (k + 1))), (4, .int 1), (0, .ref x), (1, .int (nI a)), (2, .int (nI b)), (3, .int dy)]) hx hb d_Md_everOne_88 hl (k := 5) rfl (nI_1 k) (by decide) rfl (fun ls hl => ?_)
                refine lv_goto (tgt := 30) hx hb d_Md_everOne_91 (by decide) ?_
                exact ih30  _ true (k + 1) (by omega) (by omega) (by rw [anyTo, ← Bool.or_assoc, hz9]; simp [evP, c47, c63, oneB_t hGgl2 hCgl2 ha hb1 c78]) _ _ hI hS ls (lv_sub hl [2, 3, 4, 5, 1, 0] rfl)
    exact loop30 ((mg - 0) + 1) _ true 0 (Nat.lt_succ_self _) (Nat.zero_le _) (by rw [oneB_t hGgl hCgl ha hb1 c17]; simp [anyTo]) _ _ hI hS ls (lv_sub hl [2, 3, 4, 5, 1, 0] rfl)
def y_Md_merge : MethodName := ⟨"NameMergesModel", "merge", "(III)I"⟩
abbrev w_Md_merge : List Cond := Cond.code y_Md_merge prog_7_method_21_code 4 (Option.some Jvm.ClassFile.FieldType.int) :: gw
theorem d_Md_merge_0 : decode prog_7_method_21_code 0 = .ok (.aload_n 0, 1) := by decide +kernel
theorem d_Md_merge_1 : decode prog_7_method_21_code 1 = .ok (.aload_n 0, 1) := by decide +kernel
theorem d_Md_merge_2 : decode prog_7_method_21_code 2 = .ok (.iload_n 1, 1) := by decide +kernel
theorem d_Md_merge_3 : decode prog_7_method_21_code 3 = .ok (.invokevirtual 92, 3) := by decide +kernel
theorem d_Md_merge_6 : decode prog_7_method_21_code 6 = .ok (.ifCond .eq 15, 3) := by decide +kernel
theorem d_Md_merge_9 : decode prog_7_method_21_code 9 = .ok (.aload_n 0, 1) := by decide +kernel
theorem d_Md_merge_10 : decode prog_7_method_21_code 10 = .ok (.iload_n 2, 1) := by decide +kernel
theorem d_Md_merge_11 : decode prog_7_method_21_code 11 = .ok (.invokevirtual 92, 3) := by decide +kernel
theorem d_Md_merge_14 : decode prog_7_method_21_code 14 = .ok (.ifCond .eq 7, 3) := by decide +kernel
theorem d_Md_merge_17 : decode prog_7_method_21_code 17 = .ok (.iconst 1, 1) := by decide +kernel
theorem d_Md_merge_18 : decode prog_7_method_21_code 18 = .ok (.goto 4, 3) := by decide +kernel
theorem d_Md_merge_21 : decode prog_7_method_21_code 21 = .ok (.iconst 0, 1) := by decide +kernel
theorem d_Md_merge_22 : decode prog_7_method_21_code 22 = .ok (.aload_n 0, 1) := by decide +kernel
theorem d_Md_merge_23 : decode prog_7_method_21_code 23 = .ok (.getfield 106, 3) := by decide +kernel
theorem d_Md_merge_26 : decode prog_7_method_21_code 26 = .ok (.bipush 60, 2) := by decide +kernel
theorem d_Md_merge_28 : decode prog_7_method_21_code 28 = .ok (.if_icmp .ge 7, 3) := by decide +kernel
theorem d_Md_merge_31 : decode prog_7_method_21_code 31 = .ok (.iconst 1, 1) := by decide +kernel
theorem d_Md_merge_32 : decode prog_7_method_21_code 32 = .ok (.goto 4, 3) := by decide +kernel
theorem d_Md_merge_35 : decode prog_7_method_21_code 35 = .ok (.iconst 0, 1) := by decide +kernel
theorem d_Md_merge_36 : decode prog_7_method_21_code 36 = .ok (.iload_n 1, 1) := by decide +kernel
theorem d_Md_merge_37 : decode prog_7_method_21_code 37 = .ok (.iload_n 2, 1) := by decide +kernel
theorem d_Md_merge_38 : decode prog_7_method_21_code 38 = .ok (.if_icmp .eq 14, 3) := by decide +kernel
theorem d_Md_merge_41 : decode prog_7_method_21_code 41 = .ok (.iload_n 3, 1) := by decide +kernel
theorem d_Md_merge_42 : decode prog_7_method_21_code 42 = .ok (.invokestatic 96, 3) := by decide +kernel
theorem d_Md_merge_45 : decode prog_7_method_21_code 45 = .ok (.ifCond .eq 7, 3) := by decide +kernel
theorem d_Md_merge_48 : decode prog_7_method_21_code 48 = .ok (.iconst 1, 1) := by decide +kernel
theorem d_Md_merge_49 : decode prog_7_method_21_code 49 = .ok (.goto 4, 3) := by decide +kernel
theorem d_Md_merge_52 : decode prog_7_method_21_code 52 = .ok (.iconst 0, 1) := by decide +kernel
theorem d_Md_merge_53 : decode prog_7_method_21_code 53 = .ok (.invokevirtual 88, 3) := by decide +kernel
theorem d_Md_merge_56 : decode prog_7_method_21_code 56 = .ok (.ifCond .ne 5, 3) := by decide +kernel
theorem d_Md_merge_59 : decode prog_7_method_21_code 59 = .ok (.iconst 0, 1) := by decide +kernel
theorem d_Md_merge_60 : decode prog_7_method_21_code 60 = .ok (.ireturn, 1) := by decide +kernel
theorem d_Md_merge_61 : decode prog_7_method_21_code 61 = .ok (.aload_n 0, 1) := by decide +kernel
theorem d_Md_merge_62 : decode prog_7_method_21_code 62 = .ok (.getfield 37, 3) := by decide +kernel
theorem d_Md_merge_65 : decode prog_7_method_21_code 65 = .ok (.bipush 24, 2) := by decide +kernel
theorem d_Md_merge_67 : decode prog_7_method_21_code 67 = .ok (.iload_n 1, 1) := by decide +kernel
theorem d_Md_merge_68 : decode prog_7_method_21_code 68 = .ok (.imul, 1) := by decide +kernel
theorem d_Md_merge_69 : decode prog_7_method_21_code 69 = .ok (.iload_n 2, 1) := by decide +kernel
theorem d_Md_merge_70 : decode prog_7_method_21_code 70 = .ok (.iadd, 1) := by decide +kernel
theorem d_Md_merge_71 : decode prog_7_method_21_code 71 = .ok (.iaload, 1) := by decide +kernel
theorem d_Md_merge_72 : decode prog_7_method_21_code 72 = .ok (.iconst 2, 1) := by decide +kernel
theorem d_Md_merge_73 : decode prog_7_method_21_code 73 = .ok (.if_icmp .ne 5, 3) := by decide +kernel
theorem d_Md_merge_76 : decode prog_7_method_21_code 76 = .ok (.iconst 1, 1) := by decide +kernel
theorem d_Md_merge_77 : decode prog_7_method_21_code 77 = .ok (.ireturn, 1) := by decide +kernel
theorem d_Md_merge_78 : decode prog_7_method_21_code 78 = .ok (.aload_n 0, 1) := by decide +kernel
theorem d_Md_merge_79 : decode prog_7_method_21_code 79 = .ok (.iload_n 1, 1) := by decide +kernel
theorem d_Md_merge_80 : decode prog_7_method_21_code 80 = .ok (.iload_n 2, 1) := by decide +kernel
theorem d_Md_merge_81 : decode prog_7_method_21_code 81 = .ok (.iload_n 3, 1) := by decide +kernel
theorem d_Md_merge_82 : decode prog_7_method_21_code 82 = .ok (.invokevirtual 120, 3) := by decide +kernel
theorem d_Md_merge_85 : decode prog_7_method_21_code 85 = .ok (.ifCond .eq 5, 3) := by decide +kernel
theorem d_Md_merge_88 : decode prog_7_method_21_code 88 = .ok (.iconst 2, 1) := by decide +kernel
theorem d_Md_merge_89 : decode prog_7_method_21_code 89 = .ok (.ireturn, 1) := by decide +kernel
theorem d_Md_merge_90 : decode prog_7_method_21_code 90 = .ok (.aload_n 0, 1) := by decide +kernel
theorem d_Md_merge_91 : decode prog_7_method_21_code 91 = .ok (.getfield 50, 3) := by decide +kernel
theorem d_Md_merge_94 : decode prog_7_method_21_code 94 = .ok (.aload_n 0, 1) := by decide +kernel
theorem d_Md_merge_95 : decode prog_7_method_21_code 95 = .ok (.getfield 106, 3) := by decide +kernel
theorem d_Md_merge_98 : decode prog_7_method_21_code 98 = .ok (.iload_n 1, 1) := by decide +kernel
theorem d_Md_merge_99 : decode prog_7_method_21_code 99 = .ok (.iastore, 1) := by decide +kernel
theorem d_Md_merge_100 : decode prog_7_method_21_code 100 = .ok (.aload_n 0, 1) := by decide +kernel
theorem d_Md_merge_101 : decode prog_7_method_21_code 101 = .ok (.getfield 53, 3) := by decide +kernel
theorem d_Md_merge_104 : decode prog_7_method_21_code 104 = .ok (.aload_n 0, 1) := by decide +kernel
theorem d_Md_merge_105 : decode prog_7_method_21_code 105 = .ok (.getfield 106, 3) := by decide +kernel
theorem d_Md_merge_108 : decode prog_7_method_21_code 108 = .ok (.iload_n 2, 1) := by decide +kernel
theorem d_Md_merge_109 : decode prog_7_method_21_code 109 = .ok (.iastore, 1) := by decide +kernel
theorem d_Md_merge_110 : decode prog_7_method_21_code 110 = .ok (.aload_n 0, 1) := by decide +kernel
theorem d_Md_merge_111 : decode prog_7_method_21_code 111 = .ok (.getfield 56, 3) := by decide +kernel
theorem d_Md_merge_114 : decode prog_7_method_21_code 114 = .ok (.aload_n 0, 1) := by decide +kernel
theorem d_Md_merge_115 : decode prog_7_method_21_code 115 = .ok (.getfield 106, 3) := by decide +kernel
theorem d_Md_merge_118 : decode prog_7_method_21_code 118 = .ok (.iload_n 3, 1) := by decide +kernel
theorem d_Md_merge_119 : decode prog_7_method_21_code 119 = .ok (.iastore, 1) := by decide +kernel
theorem d_Md_merge_120 : decode prog_7_method_21_code 120 = .ok (.aload_n 0, 1) := by decide +kernel
theorem d_Md_merge_121 : decode prog_7_method_21_code 121 = .ok (.getfield 59, 3) := by decide +kernel
theorem d_Md_merge_124 : decode prog_7_method_21_code 124 = .ok (.aload_n 0, 1) := by decide +kernel
theorem d_Md_merge_125 : decode prog_7_method_21_code 125 = .ok (.getfield 106, 3) := by decide +kernel
theorem d_Md_merge_128 : decode prog_7_method_21_code 128 = .ok (.iconst (-1), 1) := by decide +kernel
theorem d_Md_merge_129 : decode prog_7_method_21_code 129 = .ok (.iastore, 1) := by decide +kernel
theorem d_Md_merge_130 : decode prog_7_method_21_code 130 = .ok (.aload_n 0, 1) := by decide +kernel
theorem d_Md_merge_131 : decode prog_7_method_21_code 131 = .ok (.dup, 1) := by decide +kernel
theorem d_Md_merge_132 : decode prog_7_method_21_code 132 = .ok (.getfield 106, 3) := by decide +kernel
theorem d_Md_merge_135 : decode prog_7_method_21_code 135 = .ok (.iconst 1, 1) := by decide +kernel
theorem d_Md_merge_136 : decode prog_7_method_21_code 136 = .ok (.iadd, 1) := by decide +kernel
theorem d_Md_merge_137 : decode prog_7_method_21_code 137 = .ok (.putfield 106, 3) := by decide +kernel
theorem d_Md_merge_140 : decode prog_7_method_21_code 140 = .ok (.iconst 0, 1) := by decide +kernel
theorem d_Md_merge_141 : decode prog_7_method_21_code 141 = .ok (.ireturn, 1) := by decide +kernel
set_option maxHeartbeats 4000000 in
set_option maxRecDepth 100000 in
theorem c_Md_merge (l : Launch) (D : va_G) (cs : Nat → ClassId) (N0 : Nat) (H : Heap) (x : Nat) (g : Nat → Nat) (i : Nat → Int32) (f : Nat → Nat → Int32) (qa qb dy : Int32) (hsep : md_sep N0 x g) (hI : md_I D cs H x g i f) (n : Nat) (hn : i 2 = nI n) (hn24 : n ≤ 24) (mg : Nat) (hmg : i 3 = nI mg) (hmg60 : mg ≤ 60) (mo mt : Nat → Nat) (hone : ∀ k, k < mg → f 13 k = nI (mo k) ∧ mo k < 24) (hoth : ∀ k, k < mg → f 14 k = nI (mt k) ∧ mt k < 24) : Met l y_Md_merge w_Md_merge ({ frames := 2, cells := 0, slots := 0, locals := 50 }) (hPre D cs N0 [.ref x, .int qa, .int qb, .int dy] H) (hQi (fun r H' => if goB (isN n qa && isN n qb) (decide (mg < 60)) (!decide (qa = qb) && isD dy) = true then (if f 9 (24 * tn qa + tn qb) = 2 then (md_I D cs H' x g (upd i 0 (goV (isN n qa && isN n qb) (decide (mg < 60)) (!decide (qa = qb) && isD dy))) f ∧ r = 1) else if evB f mo mt mg (tn qa) (tn qb) dy = true then (∃ G : Nat → Int32, md_I D cs H' x g (upd i 0 (goV (isN n qa && isN n qb) (decide (mg < 60)) (!decide (qa = qb) && isD dy))) (setA f 17 G) ∧ r = 2) else (∃ G : Nat → Int32, md_I D cs H' x g (upd (upd i 0 (goV (isN n qa && isN n qb) (decide (mg < 60)) (!decide (qa = qb) && isD dy))) 3 (nI (mg + 1))) (setA (updA (updA (updA (updA f 13 mg qa) 14 mg qb) 15 mg dy) 16 mg (-1)) 17 G) ∧ r = 0)) else (md_I D cs H' x g (upd i 0 (goV (isN n qa && isN n qb) (decide (mg < 60)) (!decide (qa = qb) && isD dy))) f ∧ r = 0)) (md_A x g)) 0 0 (md_A x g) := by
  refine Met.ofW (cc := prog_7_method_21_code) (maxL := 4) (ret := (Option.some Jvm.ClassFile.FieldType.int)) (by decide) rfl ?_
  intro p e s m args below meth c s₁ B hml hv
  obtain ⟨rfl, rfl, hB⟩ := hv
  have hx := B.exec
  have hb := B.bytes
  have hr := B.returns
  have hts := atoms_spec (ws := w_Md_merge) B.pre
  have htg : ∀ w ∈ gw, w.before _ s = true := fun w h => hts w (List.mem_cons_of_mem _ h)
  have hown : s.vm.findClass "NameMergesModel" = some m.cls := findClass_of_methodNamed B.named
  have hlocks := B.notSynchronized
  have hK := hB.1
  have hS : va_S (md_A x g) s.heap s.heap [] := va_S.rf
  obtain ⟨H, hH⟩ : ∃ z : Heap, z = s.heap := ⟨_, rfl⟩
  rw [← hH] at hI
  have hS : va_S (md_A x g) s.heap H [] := by rw [hH]; exact va_S.rf
  have hl := lv_entry ([.ref x, .int qa, .int qb, .int dy]) (n := 4) (Nat.le_of_ble_eq_true rfl)
  rw [lg_entry_eq, ← hH]
  generalize (lg_sl ([.ref x, .int qa, .int qb, .int dy]) ++ List.replicate (4 - (lg_sl ([.ref x, .int qa, .int qb, .int dy])).length) Slot.unset).toArray = ls at hl ⊢
  have hl : lv_has ls 4 [(0, .ref x), (1, .int qa), (2, .int qb), (3, .int dy)] := hl
  refine lv_aload_n hx hb d_Md_merge_0 rfl (lv_at hl 0 rfl) ?_
  refine lv_aload_n hx hb d_Md_merge_1 rfl (lv_at hl 0 rfl) ?_
  refine lv_iload_n hx hb d_Md_merge_2 rfl (lv_at hl 1 rfl) ?_
  refine h_calli (va_runV (As := [.int qa]) (rest := [.ref x]) ⟨hx, hb, hml, hown, htg⟩ (c_Md_isName l D cs N0 H x g i f qa hsep hI n hn) (cwV 1 htg (gw_V (gw_mem (i := 1108) (by decide +kernel) rfl) (gw_mem (i := 1110) (by decide +kernel) rfl) (gw_mem (i := 19) (by decide +kernel) rfl) (gw_mem (i := 38) (by decide +kernel) rfl) (gw_mem (i := 1111) (by decide +kernel) rfl)) rfl rfl rfl (by decide +kernel) ⟨Nat.le_of_ble_eq_true rfl, Nat.le_of_ble_eq_true rfl⟩) ⟨hPre.blind, hx_recv hK (ci := 0) rfl hI.1, hPre.at hB hS hsep.A⟩ rfl rfl hl.1 rfl (lv_room (Nat.le_of_ble_eq_true rfl)) d_Md_merge_3 ⟨Nat.zero_le _, Nat.zero_le _⟩) hS (fun _ h => h) (fun r3 H locs hp hz hk hS => ?_)
  obtain ⟨hI, er3⟩ := hp
  refine lv_eqi (y := (bI (isN n qa))) er3 ?_
  refine lv_if_eq (x := (bI (isN n qa))) (tgt := 21) hx hb d_Md_merge_6 (by decide) (fun c6 => ?_) (fun c6 => ?_)
  · skip
    replace c6 : (isN n qa) = false := bI_0 c6
    refine lv_iconst (v := 0) hx hb d_Md_merge_21 (by decide) ?_
    refine lv_aload_n hx hb d_Md_merge_22 rfl (lv_at hl 0 rfl) ?_
    refine hx_get (v := .int (i 3)) hx hb htg iMd hown hK hI.1 rfl 16 (by decide) (htg _ (gw_mem (i := 1014) (by decide +kernel) rfl)) (fun _ h9 => h9) rfl d_Md_merge_23 ?_
    refine lv_eqi (y := (nI mg)) hmg ?_
    refine lv_bipush (v := 60) hx hb d_Md_merge_26 (by decide) ?_
    refine lv_icmp_ge (x := (nI mg)) (y := 60) (tgt := 35) hx hb d_Md_merge_28 (by decide) (fun c28 => ?_) (fun c28 => ?_)
    · skip
      replace c28 : 60 ≤ mg := (nI_leI (a := 60) (b := mg) (by omega) (by omega)).mp c28
      refine lv_iconst (v := 0) hx hb d_Md_merge_35 (by decide) ?_
      refine lv_iload_n hx hb d_Md_merge_36 rfl (lv_at hl 1 rfl) ?_
      refine lv_iload_n hx hb d_Md_merge_37 rfl (lv_at hl 2 rfl) ?_
      refine lv_icmp_eq (x := qa) (y := qb) (tgt := 52) hx hb d_Md_merge_38 (by decide) (fun c38 => ?_) (fun c38 => ?_)
      · skip
        refine lv_iconst (v := 0) hx hb d_Md_merge_52 (by decide) ?_
        refine h_calli (va_runV (As := [.int 0, .int 0, .int 0]) (rest := []) ⟨hx, hb, hml, hown, htg⟩ (c_Md_goes l D cs N0 H x g i f false false false hsep hI) (cwV 3 htg (gw_V (gw_mem (i := 1092) (by decide +kernel) rfl) (gw_mem (i := 1094) (by decide +kernel) rfl) (gw_mem (i := 18) (by decide +kernel) rfl) (gw_mem (i := 38) (by decide +kernel) rfl) (gw_mem (i := 1095) (by decide +kernel) rfl)) rfl rfl rfl (by decide +kernel) ⟨Nat.le_of_ble_eq_true rfl, Nat.le_of_ble_eq_true rfl⟩) ⟨hPre.blind, hx_recv hK (ci := 0) rfl hI.1, hPre.at hB hS hsep.A⟩ rfl rfl hl.1 rfl (lv_room (Nat.le_of_ble_eq_true rfl)) d_Md_merge_53 ⟨Nat.zero_le _, Nat.zero_le _⟩) hS (fun _ h => h) (fun r53 H locs hp hz hk hS => ?_)
        obtain ⟨hI, er53⟩ := hp
        replace hI : md_I D cs H x g (upd i 0 1) f := hI
        refine lv_eqi (y := 0) er53 ?_
        refine lv_if_ne (x := 0) (tgt := 61) hx hb d_Md_merge_56 (by decide) (fun c56 => ?_) (fun c56 => ?_)
        · exact absurd c56 (by decide)
        · skip
          refine lv_iconst (v := 0) hx hb d_Md_merge_59 (by decide) ?_
          exact W.iret (v := 0) hx hb hr (fun t ht hW => ⟨⟨0, H, rfl, by dsimp only; have e0 : (isN n qa && isN n qb) = false := (by first | (simp [c6, c28, c38]; done) | (simp [c6, c28, c38]; omega) | omega | simp_all); have e1 : (decide (mg < 60)) = false := (by first | (simp [c6, c28, c38]; done) | (simp [c6, c28, c38]; omega) | omega | simp_all); have e2 : (!decide (qa = qb) && isD dy) = false := (by first | (simp [c6, c28, c38]; done) | (simp [c6, c28, c38]; omega) | omega | simp_all); rw [e0, e1, e2]; rw [if_neg (show ¬ goB false false false = true by simp [goB])]; exact ⟨hI, rfl⟩, ht⟩, hS.F ht⟩) hS.2.2 d_Md_merge_60
      · skip
        refine lv_iload_n hx hb d_Md_merge_41 rfl (lv_at hl 3 rfl) ?_
        refine h_calli (va_runS (As := [.int dy]) (rest := [.int 0, .int 0, .ref x]) ⟨hx, hb, hml, hown, htg⟩ (c_Md_isDay l D cs N0 H x g i f dy hsep hI) (cwS 1 htg (gw_S (gw_mem (i := 1112) (by decide +kernel) rfl) (gw_mem (i := 1113) (by decide +kernel) rfl) (gw_mem (i := 38) (by decide +kernel) rfl) (gw_mem (i := 1114) (by decide +kernel) rfl)) rfl rfl rfl (by decide +kernel) ⟨Nat.le_of_ble_eq_true rfl, Nat.le_of_ble_eq_true rfl⟩) ⟨hPre.blind, hPre.at hB hS hsep.A⟩ rfl rfl hl.1 rfl (lv_room (Nat.le_of_ble_eq_true rfl)) d_Md_merge_42 ⟨Nat.zero_le _, Nat.zero_le _⟩) hS (fun _ h => h) (fun r42 H locs hp hz hk hS => ?_)
        obtain ⟨hI, er42⟩ := hp
        refine lv_eqi (y := (bI (isD dy))) er42 ?_
        refine lv_if_eq (x := (bI (isD dy))) (tgt := 52) hx hb d_Md_merge_45 (by decide) (fun c45 => ?_) (fun c45 => ?_)
        · skip
          replace c45 : (isD dy) = false := bI_0 c45
          refine lv_iconst (v := 0) hx hb d_Md_merge_52 (by decide) ?_
          refine h_calli (va_runV (As := [.int 0, .int 0, .int 0]) (rest := []) ⟨hx, hb, hml, hown, htg⟩ (c_Md_goes l D cs N0 H x g i f false false false hsep hI) (cwV 3 htg (gw_V (gw_mem (i := 1092) (by decide +kernel) rfl) (gw_mem (i := 1094) (by decide +kernel) rfl) (gw_mem (i := 18) (by decide +kernel) rfl) (gw_mem (i := 38) (by decide +kernel) rfl) (gw_mem (i := 1095) (by decide +kernel) rfl)) rfl rfl rfl (by decide +kernel) ⟨Nat.le_of_ble_eq_true rfl, Nat.le_of_ble_eq_true rfl⟩) ⟨hPre.blind, hx_recv hK (ci := 0) rfl hI.1, hPre.at hB hS hsep.A⟩ rfl rfl hl.1 rfl (lv_room (Nat.le_of_ble_eq_true rfl)) d_Md_merge_53 ⟨Nat.zero_le _, Nat.zero_le _⟩) hS (fun _ h => h) (fun r53 H locs hp hz hk hS => ?_)
          obtain ⟨hI, er53⟩ := hp
          replace hI : md_I D cs H x g (upd i 0 1) f := hI
          refine lv_eqi (y := 0) er53 ?_
          refine lv_if_ne (x := 0) (tgt := 61) hx hb d_Md_merge_56 (by decide) (fun c56 => ?_) (fun c56 => ?_)
          · exact absurd c56 (by decide)
          · skip
            refine lv_iconst (v := 0) hx hb d_Md_merge_59 (by decide) ?_
            exact W.iret (v := 0) hx hb hr (fun t ht hW => ⟨⟨0, H, rfl, by dsimp only; have e0 : (isN n qa && isN n qb) = false := (by first | (simp [c6, c28, c38, c45]; done) | (simp [c6, c28, c38, c45]; omega) | omega | simp_all); have e1 : (decide (mg < 60)) = false := (by first | (simp [c6, c28, c38, c45]; done) | (simp [c6, c28, c38, c45]; omega) | omega | simp_all); have e2 : (!decide (qa = qb) && isD dy) = false := (by first | (simp [c6, c28, c38, c45]; done) | (simp [c6, c28, c38, c45]; omega) | omega | simp_all); rw [e0, e1, e2]; rw [if_neg (show ¬ goB false false false = true by simp [goB])]; exact ⟨hI, rfl⟩, ht⟩, hS.F ht⟩) hS.2.2 d_Md_merge_60
        · skip
          replace c45 : (isD dy) = true := bI_1 c45
          refine lv_iconst (v := 1) hx hb d_Md_merge_48 (by decide) ?_
          refine lv_goto (tgt := 53) hx hb d_Md_merge_49 (by decide) ?_
          refine h_calli (va_runV (As := [.int 0, .int 0, .int 1]) (rest := []) ⟨hx, hb, hml, hown, htg⟩ (c_Md_goes l D cs N0 H x g i f false false true hsep hI) (cwV 3 htg (gw_V (gw_mem (i := 1092) (by decide +kernel) rfl) (gw_mem (i := 1094) (by decide +kernel) rfl) (gw_mem (i := 18) (by decide +kernel) rfl) (gw_mem (i := 38) (by decide +kernel) rfl) (gw_mem (i := 1095) (by decide +kernel) rfl)) rfl rfl rfl (by decide +kernel) ⟨Nat.le_of_ble_eq_true rfl, Nat.le_of_ble_eq_true rfl⟩) ⟨hPre.blind, hx_recv hK (ci := 0) rfl hI.1, hPre.at hB hS hsep.A⟩ rfl rfl hl.1 rfl (lv_room (Nat.le_of_ble_eq_true rfl)) d_Md_merge_53 ⟨Nat.zero_le _, Nat.zero_le _⟩) hS (fun _ h => h) (fun r53 H locs hp hz hk hS => ?_)
          obtain ⟨hI, er53⟩ := hp
          replace hI : md_I D cs H x g (upd i 0 1) f := hI
          refine lv_eqi (y := 0) er53 ?_
          refine lv_if_ne (x := 0) (tgt := 61) hx hb d_Md_merge_56 (by decide) (fun c56 => ?_) (fun c56 => ?_)
          · exact absurd c56 (by decide)
          · skip
            refine lv_iconst (v := 0) hx hb d_Md_merge_59 (by decide) ?_
            exact W.iret (v := 0) hx hb hr (fun t ht hW => ⟨⟨0, H, rfl, by dsimp only; have e0 : (isN n qa && isN n qb) = false := (by first | (simp [c6, c28, c38, c45]; done) | (simp [c6, c28, c38, c45]; omega) | omega | simp_all); have e1 : (decide (mg < 60)) = false := (by first | (simp [c6, c28, c38, c45]; done) | (simp [c6, c28, c38, c45]; omega) | omega | simp_all); have e2 : (!decide (qa = qb) && isD dy) = true := (by first | (simp [c6, c28, c38, c45]; done) | (simp [c6, c28, c38, c45]; omega) | omega | simp_all); rw [e0, e1, e2]; rw [if_neg (show ¬ goB false false true = true by simp [goB])]; exact ⟨hI, rfl⟩, ht⟩, hS.F ht⟩) hS.2.2 d_Md_merge_60
    · skip
      replace c28 : ¬ (60 ≤ mg) := fun z9 => c28 ((nI_leI (a := 60) (b := mg) (by omega) (by omega)).mpr z9)
      refine lv_iconst (v := 1) hx hb d_Md_merge_31 (by decide) ?_
      refine lv_goto (tgt := 36) hx hb d_Md_merge_32 (by decide) ?_
      refine lv_iload_n hx hb d_Md_merge_36 rfl (lv_at hl 1 rfl) ?_
      refine lv_iload_n hx hb d_Md_merge_37 rfl (lv_at hl 2 rfl) ?_
      refine lv_icmp_eq (x := qa) (y := qb) (tgt := 52) hx hb d_Md_merge_38 (by decide) (fun c38 => ?_) (fun c38 => ?_)
      · skip
        refine lv_iconst (v := 0) hx hb d_Md_merge_52 (by decide) ?_
        refine h_calli (va_runV (As := [.int 0, .int 1, .int 0]) (rest := []) ⟨hx, hb, hml, hown, htg⟩ (c_Md_goes l D cs N0 H x g i f false true false hsep hI) (cwV 3 htg (gw_V (gw_mem (i := 1092) (by decide +kernel) rfl) (gw_mem (i := 1094) (by decide +kernel) rfl) (gw_mem (i := 18) (by decide +kernel) rfl) (gw_mem (i := 38) (by decide +kernel) rfl) (gw_mem (i := 1095) (by decide +kernel) rfl)) rfl rfl rfl (by decide +kernel) ⟨Nat.le_of_ble_eq_true rfl, Nat.le_of_ble_eq_true rfl⟩) ⟨hPre.blind, hx_recv hK (ci := 0) rfl hI.1, hPre.at hB hS hsep.A⟩ rfl rfl hl.1 rfl (lv_room (Nat.le_of_ble_eq_true rfl)) d_Md_merge_53 ⟨Nat.zero_le _, Nat.zero_le _⟩) hS (fun _ h => h) (fun r53 H locs hp hz hk hS => ?_)
        obtain ⟨hI, er53⟩ := hp
        replace hI : md_I D cs H x g (upd i 0 1) f := hI
        refine lv_eqi (y := 0) er53 ?_
        refine lv_if_ne (x := 0) (tgt := 61) hx hb d_Md_merge_56 (by decide) (fun c56 => ?_) (fun c56 => ?_)
        · exact absurd c56 (by decide)
        · skip
          refine lv_iconst (v := 0) hx hb d_Md_merge_59 (by decide) ?_
          exact W.iret (v := 0) hx hb hr (fun t ht hW => ⟨⟨0, H, rfl, by dsimp only; have e0 : (isN n qa && isN n qb) = false := (by first | (simp [c6, c28, c38]; done) | (simp [c6, c28, c38]; omega) | omega | simp_all); have e1 : (decide (mg < 60)) = true := (by first | (simp [c6, c28, c38]; done) | (simp [c6, c28, c38]; omega) | omega | simp_all); have e2 : (!decide (qa = qb) && isD dy) = false := (by first | (simp [c6, c28, c38]; done) | (simp [c6, c28, c38]; omega) | omega | simp_all); rw [e0, e1, e2]; rw [if_neg (show ¬ goB false true false = true by simp [goB])]; exact ⟨hI, rfl⟩, ht⟩, hS.F ht⟩) hS.2.2 d_Md_merge_60
      · skip
        refine lv_iload_n hx hb d_Md_merge_41 rfl (lv_at hl 3 rfl) ?_
        refine h_calli (va_runS (As := [.int dy]) (rest := [.int 1, .int 0, .ref x]) ⟨hx, hb, hml, hown, htg⟩ (c_Md_isDay l D cs N0 H x g i f dy hsep hI) (cwS 1 htg (gw_S (gw_mem (i := 1112) (by decide +kernel) rfl) (gw_mem (i := 1113) (by decide +kernel) rfl) (gw_mem (i := 38) (by decide +kernel) rfl) (gw_mem (i := 1114) (by decide +kernel) rfl)) rfl rfl rfl (by decide +kernel) ⟨Nat.le_of_ble_eq_true rfl, Nat.le_of_ble_eq_true rfl⟩) ⟨hPre.blind, hPre.at hB hS hsep.A⟩ rfl rfl hl.1 rfl (lv_room (Nat.le_of_ble_eq_true rfl)) d_Md_merge_42 ⟨Nat.zero_le _, Nat.zero_le _⟩) hS (fun _ h => h) (fun r42 H locs hp hz hk hS => ?_)
        obtain ⟨hI, er42⟩ := hp
        refine lv_eqi (y := (bI (isD dy))) er42 ?_
        refine lv_if_eq (x := (bI (isD dy))) (tgt := 52) hx hb d_Md_merge_45 (by decide) (fun c45 => ?_) (fun c45 => ?_)
        · skip
          replace c45 : (isD dy) = false := bI_0 c45
          refine lv_iconst (v := 0) hx hb d_Md_merge_52 (by decide) ?_
          refine h_calli (va_runV (As := [.int 0, .int 1, .int 0]) (rest := []) ⟨hx, hb, hml, hown, htg⟩ (c_Md_goes l D cs N0 H x g i f false true false hsep hI) (cwV 3 htg (gw_V (gw_mem (i := 1092) (by decide +kernel) rfl) (gw_mem (i := 1094) (by decide +kernel) rfl) (gw_mem (i := 18) (by decide +kernel) rfl) (gw_mem (i := 38) (by decide +kernel) rfl) (gw_mem (i := 1095) (by decide +kernel) rfl)) rfl rfl rfl (by decide +kernel) ⟨Nat.le_of_ble_eq_true rfl, Nat.le_of_ble_eq_true rfl⟩) ⟨hPre.blind, hx_recv hK (ci := 0) rfl hI.1, hPre.at hB hS hsep.A⟩ rfl rfl hl.1 rfl (lv_room (Nat.le_of_ble_eq_true rfl)) d_Md_merge_53 ⟨Nat.zero_le _, Nat.zero_le _⟩) hS (fun _ h => h) (fun r53 H locs hp hz hk hS => ?_)
          obtain ⟨hI, er53⟩ := hp
          replace hI : md_I D cs H x g (upd i 0 1) f := hI
          refine lv_eqi (y := 0) er53 ?_
          refine lv_if_ne (x := 0) (tgt := 61) hx hb d_Md_merge_56 (by decide) (fun c56 => ?_) (fun c56 => ?_)
          · exact absurd c56 (by decide)
          · skip
            refine lv_iconst (v := 0) hx hb d_Md_merge_59 (by decide) ?_
            exact W.iret (v := 0) hx hb hr (fun t ht hW => ⟨⟨0, H, rfl, by dsimp only; have e0 : (isN n qa && isN n qb) = false := (by first | (simp [c6, c28, c38, c45]; done) | (simp [c6, c28, c38, c45]; omega) | omega | simp_all); have e1 : (decide (mg < 60)) = true := (by first | (simp [c6, c28, c38, c45]; done) | (simp [c6, c28, c38, c45]; omega) | omega | simp_all); have e2 : (!decide (qa = qb) && isD dy) = false := (by first | (simp [c6, c28, c38, c45]; done) | (simp [c6, c28, c38, c45]; omega) | omega | simp_all); rw [e0, e1, e2]; rw [if_neg (show ¬ goB false true false = true by simp [goB])]; exact ⟨hI, rfl⟩, ht⟩, hS.F ht⟩) hS.2.2 d_Md_merge_60
        · skip
          replace c45 : (isD dy) = true := bI_1 c45
          refine lv_iconst (v := 1) hx hb d_Md_merge_48 (by decide) ?_
          refine lv_goto (tgt := 53) hx hb d_Md_merge_49 (by decide) ?_
          refine h_calli (va_runV (As := [.int 0, .int 1, .int 1]) (rest := []) ⟨hx, hb, hml, hown, htg⟩ (c_Md_goes l D cs N0 H x g i f false true true hsep hI) (cwV 3 htg (gw_V (gw_mem (i := 1092) (by decide +kernel) rfl) (gw_mem (i := 1094) (by decide +kernel) rfl) (gw_mem (i := 18) (by decide +kernel) rfl) (gw_mem (i := 38) (by decide +kernel) rfl) (gw_mem (i := 1095) (by decide +kernel) rfl)) rfl rfl rfl (by decide +kernel) ⟨Nat.le_of_ble_eq_true rfl, Nat.le_of_ble_eq_true rfl⟩) ⟨hPre.blind, hx_recv hK (ci := 0) rfl hI.1, hPre.at hB hS hsep.A⟩ rfl rfl hl.1 rfl (lv_room (Nat.le_of_ble_eq_true rfl)) d_Md_merge_53 ⟨Nat.zero_le _, Nat.zero_le _⟩) hS (fun _ h => h) (fun r53 H locs hp hz hk hS => ?_)
          obtain ⟨hI, er53⟩ := hp
          replace hI : md_I D cs H x g (upd i 0 1) f := hI
          refine lv_eqi (y := 0) er53 ?_
          refine lv_if_ne (x := 0) (tgt := 61) hx hb d_Md_merge_56 (by decide) (fun c56 => ?_) (fun c56 => ?_)
          · exact absurd c56 (by decide)
          · skip
            refine lv_iconst (v := 0) hx hb d_Md_merge_59 (by decide) ?_
            exact W.iret (v := 0) hx hb hr (fun t ht hW => ⟨⟨0, H, rfl, by dsimp only; have e0 : (isN n qa && isN n qb) = false := (by first | (simp [c6, c28, c38, c45]; done) | (simp [c6, c28, c38, c45]; omega) | omega | simp_all); have e1 : (decide (mg < 60)) = true := (by first | (simp [c6, c28, c38, c45]; done) | (simp [c6, c28, c38, c45]; omega) | omega | simp_all); have e2 : (!decide (qa = qb) && isD dy) = true := (by first | (simp [c6, c28, c38, c45]; done) | (simp [c6, c28, c38, c45]; omega) | omega | simp_all); rw [e0, e1, e2]; rw [if_neg (show ¬ goB false true true = true by simp [goB])]; exact ⟨hI, rfl⟩, ht⟩, hS.F ht⟩) hS.2.2 d_Md_merge_60
  · skip
    replace c6 : (isN n qa) = true := bI_1 c6
    refine lv_aload_n hx hb d_Md_merge_9 rfl (lv_at hl 0 rfl) ?_
    refine lv_iload_n hx hb d_Md_merge_10 rfl (lv_at hl 2 rfl) ?_
    refine h_calli (va_runV (As := [.int qb]) (rest := [.ref x]) ⟨hx, hb, hml, hown, htg⟩ (c_Md_isName l D cs N0 H x g i f qb hsep hI n hn) (cwV 1 htg (gw_V (gw_mem (i := 1108) (by decide +kernel) rfl) (gw_mem (i := 1110) (by decide +kernel) rfl) (gw_mem (i := 19) (by decide +kernel) rfl) (gw_mem (i := 38) (by decide +kernel) rfl) (gw_mem (i := 1111) (by decide +kernel) rfl)) rfl rfl rfl (by decide +kernel) ⟨Nat.le_of_ble_eq_true rfl, Nat.le_of_ble_eq_true rfl⟩) ⟨hPre.blind, hx_recv hK (ci := 0) rfl hI.1, hPre.at hB hS hsep.A⟩ rfl rfl hl.1 rfl (lv_room (Nat.le_of_ble_eq_true rfl)) d_Md_merge_11 ⟨Nat.zero_le _, Nat.zero_le _⟩) hS (fun _ h => h) (fun r11 H locs hp hz hk hS => ?_)
    obtain ⟨hI, er11⟩ := hp
    refine lv_eqi (y := (bI (isN n qb))) er11 ?_
    refine lv_if_eq (x := (bI (isN n qb))) (tgt := 21) hx hb d_Md_merge_14 (by decide) (fun c14 => ?_) (fun c14 => ?_)
    · skip
      replace c14 : (isN n qb) = false := bI_0 c14
      refine lv_iconst (v := 0) hx hb d_Md_merge_21 (by decide) ?_
      refine lv_aload_n hx hb d_Md_merge_22 rfl (lv_at hl 0 rfl) ?_
      refine hx_get (v := .int (i 3)) hx hb htg iMd hown hK hI.1 rfl 16 (by decide) (htg _ (gw_mem (i := 1014) (by decide +kernel) rfl)) (fun _ h9 => h9) rfl d_Md_merge_23 ?_
      refine lv_eqi (y := (nI mg)) hmg ?_
      refine lv_bipush (v := 60) hx hb d_Md_merge_26 (by decide) ?_
      refine lv_icmp_ge (x := (nI mg)) (y := 60) (tgt := 35) hx hb d_Md_merge_28 (by decide) (fun c28 => ?_) (fun c28 => ?_)
      · skip
        replace c28 : 60 ≤ mg := (nI_leI (a := 60) (b := mg) (by omega) (by omega)).mp c28
        refine lv_iconst (v := 0) hx hb d_Md_merge_35 (by decide) ?_
        refine lv_iload_n hx hb d_Md_merge_36 rfl (lv_at hl 1 rfl) ?_
        refine lv_iload_n hx hb d_Md_merge_37 rfl (lv_at hl 2 rfl) ?_
        refine lv_icmp_eq (x := qa) (y := qb) (tgt := 52) hx hb d_Md_merge_38 (by decide) (fun c38 => ?_) (fun c38 => ?_)
        · skip
          refine lv_iconst (v := 0) hx hb d_Md_merge_52 (by decide) ?_
          refine h_calli (va_runV (As := [.int 0, .int 0, .int 0]) (rest := []) ⟨hx, hb, hml, hown, htg⟩ (c_Md_goes l D cs N0 H x g i f false false false hsep hI) (cwV 3 htg (gw_V (gw_mem (i := 1092) (by decide +kernel) rfl) (gw_mem (i := 1094) (by decide +kernel) rfl) (gw_mem (i := 18) (by decide +kernel) rfl) (gw_mem (i := 38) (by decide +kernel) rfl) (gw_mem (i := 1095) (by decide +kernel) rfl)) rfl rfl rfl (by decide +kernel) ⟨Nat.le_of_ble_eq_true rfl, Nat.le_of_ble_eq_true rfl⟩) ⟨hPre.blind, hx_recv hK (ci := 0) rfl hI.1, hPre.at hB hS hsep.A⟩ rfl rfl hl.1 rfl (lv_room (Nat.le_of_ble_eq_true rfl)) d_Md_merge_53 ⟨Nat.zero_le _, Nat.zero_le _⟩) hS (fun _ h => h) (fun r53 H locs hp hz hk hS => ?_)
          obtain ⟨hI, er53⟩ := hp
          replace hI : md_I D cs H x g (upd i 0 1) f := hI
          refine lv_eqi (y := 0) er53 ?_
          refine lv_if_ne (x := 0) (tgt := 61) hx hb d_Md_merge_56 (by decide) (fun c56 => ?_) (fun c56 => ?_)
          · exact absurd c56 (by decide)
          · skip
            refine lv_iconst (v := 0) hx hb d_Md_merge_59 (by decide) ?_
            exact W.iret (v := 0) hx hb hr (fun t ht hW => ⟨⟨0, H, rfl, by dsimp only; have e0 : (isN n qa && isN n qb) = false := (by first | (simp [c6, c14, c28, c38]; done) | (simp [c6, c14, c28, c38]; omega) | omega | simp_all); have e1 : (decide (mg < 60)) = false := (by first | (simp [c6, c14, c28, c38]; done) | (simp [c6, c14, c28, c38]; omega) | omega | simp_all); have e2 : (!decide (qa = qb) && isD dy) = false := (by first | (simp [c6, c14, c28, c38]; done) | (simp [c6, c14, c28, c38]; omega) | omega | simp_all); rw [e0, e1, e2]; rw [if_neg (show ¬ goB false false false = true by simp [goB])]; exact ⟨hI, rfl⟩, ht⟩, hS.F ht⟩) hS.2.2 d_Md_merge_60
        · skip
          refine lv_iload_n hx hb d_Md_merge_41 rfl (lv_at hl 3 rfl) ?_
          refine h_calli (va_runS (As := [.int dy]) (rest := [.int 0, .int 0, .ref x]) ⟨hx, hb, hml, hown, htg⟩ (c_Md_isDay l D cs N0 H x g i f dy hsep hI) (cwS 1 htg (gw_S (gw_mem (i := 1112) (by decide +kernel) rfl) (gw_mem (i := 1113) (by decide +kernel) rfl) (gw_mem (i := 38) (by decide +kernel) rfl) (gw_mem (i := 1114) (by decide +kernel) rfl)) rfl rfl rfl (by decide +kernel) ⟨Nat.le_of_ble_eq_true rfl, Nat.le_of_ble_eq_true rfl⟩) ⟨hPre.blind, hPre.at hB hS hsep.A⟩ rfl rfl hl.1 rfl (lv_room (Nat.le_of_ble_eq_true rfl)) d_Md_merge_42 ⟨Nat.zero_le _, Nat.zero_le _⟩) hS (fun _ h => h) (fun r42 H locs hp hz hk hS => ?_)
          obtain ⟨hI, er42⟩ := hp
          refine lv_eqi (y := (bI (isD dy))) er42 ?_
          refine lv_if_eq (x := (bI (isD dy))) (tgt := 52) hx hb d_Md_merge_45 (by decide) (fun c45 => ?_) (fun c45 => ?_)
          · skip
            replace c45 : (isD dy) = false := bI_0 c45
            refine lv_iconst (v := 0) hx hb d_Md_merge_52 (by decide) ?_
            refine h_calli (va_runV (As := [.int 0, .int 0, .int 0]) (rest := []) ⟨hx, hb, hml, hown, htg⟩ (c_Md_goes l D cs N0 H x g i f false false false hsep hI) (cwV 3 htg (gw_V (gw_mem (i := 1092) (by decide +kernel) rfl) (gw_mem (i := 1094) (by decide +kernel) rfl) (gw_mem (i := 18) (by decide +kernel) rfl) (gw_mem (i := 38) (by decide +kernel) rfl) (gw_mem (i := 1095) (by decide +kernel) rfl)) rfl rfl rfl (by decide +kernel) ⟨Nat.le_of_ble_eq_true rfl, Nat.le_of_ble_eq_true rfl⟩) ⟨hPre.blind, hx_recv hK (ci := 0) rfl hI.1, hPre.at hB hS hsep.A⟩ rfl rfl hl.1 rfl (lv_room (Nat.le_of_ble_eq_true rfl)) d_Md_merge_53 ⟨Nat.zero_le _, Nat.zero_le _⟩) hS (fun _ h => h) (fun r53 H locs hp hz hk hS => ?_)
            obtain ⟨hI, er53⟩ := hp
            replace hI : md_I D cs H x g (upd i 0 1) f := hI
            refine lv_eqi (y := 0) er53 ?_
            refine lv_if_ne (x := 0) (tgt := 61) hx hb d_Md_merge_56 (by decide) (fun c56 => ?_) (fun c56 => ?_)
            · exact absurd c56 (by decide)
            · skip
              refine lv_iconst (v := 0) hx hb d_Md_merge_59 (by decide) ?_
              exact W.iret (v := 0) hx hb hr (fun t ht hW => ⟨⟨0, H, rfl, by dsimp only; have e0 : (isN n qa && isN n qb) = false := (by first | (simp [c6, c14, c28, c38, c45]; done) | (simp [c6, c14, c28, c38, c45]; omega) | omega | simp_all); have e1 : (decide (mg < 60)) = false := (by first | (simp [c6, c14, c28, c38, c45]; done) | (simp [c6, c14, c28, c38, c45]; omega) | omega | simp_all); have e2 : (!decide (qa = qb) && isD dy) = false := (by first | (simp [c6, c14, c28, c38, c45]; done) | (simp [c6, c14, c28, c38, c45]; omega) | omega | simp_all); rw [e0, e1, e2]; rw [if_neg (show ¬ goB false false false = true by simp [goB])]; exact ⟨hI, rfl⟩, ht⟩, hS.F ht⟩) hS.2.2 d_Md_merge_60
          · skip
            replace c45 : (isD dy) = true := bI_1 c45
            refine lv_iconst (v := 1) hx hb d_Md_merge_48 (by decide) ?_
            refine lv_goto (tgt := 53) hx hb d_Md_merge_49 (by decide) ?_
            refine h_calli (va_runV (As := [.int 0, .int 0, .int 1]) (rest := []) ⟨hx, hb, hml, hown, htg⟩ (c_Md_goes l D cs N0 H x g i f false false true hsep hI) (cwV 3 htg (gw_V (gw_mem (i := 1092) (by decide +kernel) rfl) (gw_mem (i := 1094) (by decide +kernel) rfl) (gw_mem (i := 18) (by decide +kernel) rfl) (gw_mem (i := 38) (by decide +kernel) rfl) (gw_mem (i := 1095) (by decide +kernel) rfl)) rfl rfl rfl (by decide +kernel) ⟨Nat.le_of_ble_eq_true rfl, Nat.le_of_ble_eq_true rfl⟩) ⟨hPre.blind, hx_recv hK (ci := 0) rfl hI.1, hPre.at hB hS hsep.A⟩ rfl rfl hl.1 rfl (lv_room (Nat.le_of_ble_eq_true rfl)) d_Md_merge_53 ⟨Nat.zero_le _, Nat.zero_le _⟩) hS (fun _ h => h) (fun r53 H locs hp hz hk hS => ?_)
            obtain ⟨hI, er53⟩ := hp
            replace hI : md_I D cs H x g (upd i 0 1) f := hI
            refine lv_eqi (y := 0) er53 ?_
            refine lv_if_ne (x := 0) (tgt := 61) hx hb d_Md_merge_56 (by decide) (fun c56 => ?_) (fun c56 => ?_)
            · exact absurd c56 (by decide)
            · skip
              refine lv_iconst (v := 0) hx hb d_Md_merge_59 (by decide) ?_
              exact W.iret (v := 0) hx hb hr (fun t ht hW => ⟨⟨0, H, rfl, by dsimp only; have e0 : (isN n qa && isN n qb) = false := (by first | (simp [c6, c14, c28, c38, c45]; done) | (simp [c6, c14, c28, c38, c45]; omega) | omega | simp_all); have e1 : (decide (mg < 60)) = false := (by first | (simp [c6, c14, c28, c38, c45]; done) | (simp [c6, c14, c28, c38, c45]; omega) | omega | simp_all); have e2 : (!decide (qa = qb) && isD dy) = true := (by first | (simp [c6, c14, c28, c38, c45]; done) | (simp [c6, c14, c28, c38, c45]; omega) | omega | simp_all); rw [e0, e1, e2]; rw [if_neg (show ¬ goB false false true = true by simp [goB])]; exact ⟨hI, rfl⟩, ht⟩, hS.F ht⟩) hS.2.2 d_Md_merge_60
      · skip
        replace c28 : ¬ (60 ≤ mg) := fun z9 => c28 ((nI_leI (a := 60) (b := mg) (by omega) (by omega)).mpr z9)
        refine lv_iconst (v := 1) hx hb d_Md_merge_31 (by decide) ?_
        refine lv_goto (tgt := 36) hx hb d_Md_merge_32 (by decide) ?_
        refine lv_iload_n hx hb d_Md_merge_36 rfl (lv_at hl 1 rfl) ?_
        refine lv_iload_n hx hb d_Md_merge_37 rfl (lv_at hl 2 rfl) ?_
        refine lv_icmp_eq (x := qa) (y := qb) (tgt := 52) hx hb d_Md_merge_38 (by decide) (fun c38 => ?_) (fun c38 => ?_)
        · skip
          refine lv_iconst (v := 0) hx hb d_Md_merge_52 (by decide) ?_
          refine h_calli (va_runV (As := [.int 0, .int 1, .int 0]) (rest := []) ⟨hx, hb, hml, hown, htg⟩ (c_Md_goes l D cs N0 H x g i f false true false hsep hI) (cwV 3 htg (gw_V (gw_mem (i := 1092) (by decide +kernel) rfl) (gw_mem (i := 1094) (by decide +kernel) rfl) (gw_mem (i := 18) (by decide +kernel) rfl) (gw_mem (i := 38) (by decide +kernel) rfl) (gw_mem (i := 1095) (by decide +kernel) rfl)) rfl rfl rfl (by decide +kernel) ⟨Nat.le_of_ble_eq_true rfl, Nat.le_of_ble_eq_true rfl⟩) ⟨hPre.blind, hx_recv hK (ci := 0) rfl hI.1, hPre.at hB hS hsep.A⟩ rfl rfl hl.1 rfl (lv_room (Nat.le_of_ble_eq_true rfl)) d_Md_merge_53 ⟨Nat.zero_le _, Nat.zero_le _⟩) hS (fun _ h => h) (fun r53 H locs hp hz hk hS => ?_)
          obtain ⟨hI, er53⟩ := hp
          replace hI : md_I D cs H x g (upd i 0 1) f := hI
          refine lv_eqi (y := 0) er53 ?_
          refine lv_if_ne (x := 0) (tgt := 61) hx hb d_Md_merge_56 (by decide) (fun c56 => ?_) (fun c56 => ?_)
          · exact absurd c56 (by decide)
          · skip
            refine lv_iconst (v := 0) hx hb d_Md_merge_59 (by decide) ?_
            exact W.iret (v := 0) hx hb hr (fun t ht hW => ⟨⟨0, H, rfl, by dsimp only; have e0 : (isN n qa && isN n qb) = false := (by first | (simp [c6, c14, c28, c38]; done) | (simp [c6, c14, c28, c38]; omega) | omega | simp_all); have e1 : (decide (mg < 60)) = true := (by first | (simp [c6, c14, c28, c38]; done) | (simp [c6, c14, c28, c38]; omega) | omega | simp_all); have e2 : (!decide (qa = qb) && isD dy) = false := (by first | (simp [c6, c14, c28, c38]; done) | (simp [c6, c14, c28, c38]; omega) | omega | simp_all); rw [e0, e1, e2]; rw [if_neg (show ¬ goB false true false = true by simp [goB])]; exact ⟨hI, rfl⟩, ht⟩, hS.F ht⟩) hS.2.2 d_Md_merge_60
        · skip
          refine lv_iload_n hx hb d_Md_merge_41 rfl (lv_at hl 3 rfl) ?_
          refine h_calli (va_runS (As := [.int dy]) (rest := [.int 1, .int 0, .ref x]) ⟨hx, hb, hml, hown, htg⟩ (c_Md_isDay l D cs N0 H x g i f dy hsep hI) (cwS 1 htg (gw_S (gw_mem (i := 1112) (by decide +kernel) rfl) (gw_mem (i := 1113) (by decide +kernel) rfl) (gw_mem (i := 38) (by decide +kernel) rfl) (gw_mem (i := 1114) (by decide +kernel) rfl)) rfl rfl rfl (by decide +kernel) ⟨Nat.le_of_ble_eq_true rfl, Nat.le_of_ble_eq_true rfl⟩) ⟨hPre.blind, hPre.at hB hS hsep.A⟩ rfl rfl hl.1 rfl (lv_room (Nat.le_of_ble_eq_true rfl)) d_Md_merge_42 ⟨Nat.zero_le _, Nat.zero_le _⟩) hS (fun _ h => h) (fun r42 H locs hp hz hk hS => ?_)
          obtain ⟨hI, er42⟩ := hp
          refine lv_eqi (y := (bI (isD dy))) er42 ?_
          refine lv_if_eq (x := (bI (isD dy))) (tgt := 52) hx hb d_Md_merge_45 (by decide) (fun c45 => ?_) (fun c45 => ?_)
          · skip
            replace c45 : (isD dy) = false := bI_0 c45
            refine lv_iconst (v := 0) hx hb d_Md_merge_52 (by decide) ?_
            refine h_calli (va_runV (As := [.int 0, .int 1, .int 0]) (rest := []) ⟨hx, hb, hml, hown, htg⟩ (c_Md_goes l D cs N0 H x g i f false true false hsep hI) (cwV 3 htg (gw_V (gw_mem (i := 1092) (by decide +kernel) rfl) (gw_mem (i := 1094) (by decide +kernel) rfl) (gw_mem (i := 18) (by decide +kernel) rfl) (gw_mem (i := 38) (by decide +kernel) rfl) (gw_mem (i := 1095) (by decide +kernel) rfl)) rfl rfl rfl (by decide +kernel) ⟨Nat.le_of_ble_eq_true rfl, Nat.le_of_ble_eq_true rfl⟩) ⟨hPre.blind, hx_recv hK (ci := 0) rfl hI.1, hPre.at hB hS hsep.A⟩ rfl rfl hl.1 rfl (lv_room (Nat.le_of_ble_eq_true rfl)) d_Md_merge_53 ⟨Nat.zero_le _, Nat.zero_le _⟩) hS (fun _ h => h) (fun r53 H locs hp hz hk hS => ?_)
            obtain ⟨hI, er53⟩ := hp
            replace hI : md_I D cs H x g (upd i 0 1) f := hI
            refine lv_eqi (y := 0) er53 ?_
            refine lv_if_ne (x := 0) (tgt := 61) hx hb d_Md_merge_56 (by decide) (fun c56 => ?_) (fun c56 => ?_)
            · exact absurd c56 (by decide)
            · skip
              refine lv_iconst (v := 0) hx hb d_Md_merge_59 (by decide) ?_
              exact W.iret (v := 0) hx hb hr (fun t ht hW => ⟨⟨0, H, rfl, by dsimp only; have e0 : (isN n qa && isN n qb) = false := (by first | (simp [c6, c14, c28, c38, c45]; done) | (simp [c6, c14, c28, c38, c45]; omega) | omega | simp_all); have e1 : (decide (mg < 60)) = true := (by first | (simp [c6, c14, c28, c38, c45]; done) | (simp [c6, c14, c28, c38, c45]; omega) | omega | simp_all); have e2 : (!decide (qa = qb) && isD dy) = false := (by first | (simp [c6, c14, c28, c38, c45]; done) | (simp [c6, c14, c28, c38, c45]; omega) | omega | simp_all); rw [e0, e1, e2]; rw [if_neg (show ¬ goB false true false = true by simp [goB])]; exact ⟨hI, rfl⟩, ht⟩, hS.F ht⟩) hS.2.2 d_Md_merge_60
          · skip
            replace c45 : (isD dy) = true := bI_1 c45
            refine lv_iconst (v := 1) hx hb d_Md_merge_48 (by decide) ?_
            refine lv_goto (tgt := 53) hx hb d_Md_merge_49 (by decide) ?_
            refine h_calli (va_runV (As := [.int 0, .int 1, .int 1]) (rest := []) ⟨hx, hb, hml, hown, htg⟩ (c_Md_goes l D cs N0 H x g i f false true true hsep hI) (cwV 3 htg (gw_V (gw_mem (i := 1092) (by decide +kernel) rfl) (gw_mem (i := 1094) (by decide +kernel) rfl) (gw_mem (i := 18) (by decide +kernel) rfl) (gw_mem (i := 38) (by decide +kernel) rfl) (gw_mem (i := 1095) (by decide +kernel) rfl)) rfl rfl rfl (by decide +kernel) ⟨Nat.le_of_ble_eq_true rfl, Nat.le_of_ble_eq_true rfl⟩) ⟨hPre.blind, hx_recv hK (ci := 0) rfl hI.1, hPre.at hB hS hsep.A⟩ rfl rfl hl.1 rfl (lv_room (Nat.le_of_ble_eq_true rfl)) d_Md_merge_53 ⟨Nat.zero_le _, Nat.zero_le _⟩) hS (fun _ h => h) (fun r53 H locs hp hz hk hS => ?_)
            obtain ⟨hI, er53⟩ := hp
            replace hI : md_I D cs H x g (upd i 0 1) f := hI
            refine lv_eqi (y := 0) er53 ?_
            refine lv_if_ne (x := 0) (tgt := 61) hx hb d_Md_merge_56 (by decide) (fun c56 => ?_) (fun c56 => ?_)
            · exact absurd c56 (by decide)
            · skip
              refine lv_iconst (v := 0) hx hb d_Md_merge_59 (by decide) ?_
              exact W.iret (v := 0) hx hb hr (fun t ht hW => ⟨⟨0, H, rfl, by dsimp only; have e0 : (isN n qa && isN n qb) = false := (by first | (simp [c6, c14, c28, c38, c45]; done) | (simp [c6, c14, c28, c38, c45]; omega) | omega | simp_all); have e1 : (decide (mg < 60)) = true := (by first | (simp [c6, c14, c28, c38, c45]; done) | (simp [c6, c14, c28, c38, c45]; omega) | omega | simp_all); have e2 : (!decide (qa = qb) && isD dy) = true := (by first | (simp [c6, c14, c28, c38, c45]; done) | (simp [c6, c14, c28, c38, c45]; omega) | omega | simp_all); rw [e0, e1, e2]; rw [if_neg (show ¬ goB false true true = true by simp [goB])]; exact ⟨hI, rfl⟩, ht⟩, hS.F ht⟩) hS.2.2 d_Md_merge_60
    · skip
      replace c14 : (isN n qb) = true := bI_1 c14
      refine lv_iconst (v := 1) hx hb d_Md_merge_17 (by decide) ?_
      refine lv_goto (tgt := 22) hx hb d_Md_merge_18 (by decide) ?_
      refine lv_aload_n hx hb d_Md_merge_22 rfl (lv_at hl 0 rfl) ?_
      refine hx_get (v := .int (i 3)) hx hb htg iMd hown hK hI.1 rfl 16 (by decide) (htg _ (gw_mem (i := 1014) (by decide +kernel) rfl)) (fun _ h9 => h9) rfl d_Md_merge_23 ?_
      refine lv_eqi (y := (nI mg)) hmg ?_
      refine lv_bipush (v := 60) hx hb d_Md_merge_26 (by decide) ?_
      refine lv_icmp_ge (x := (nI mg)) (y := 60) (tgt := 35) hx hb d_Md_merge_28 (by decide) (fun c28 => ?_) (fun c28 => ?_)
      · skip
        replace c28 : 60 ≤ mg := (nI_leI (a := 60) (b := mg) (by omega) (by omega)).mp c28
        refine lv_iconst (v := 0) hx hb d_Md_merge_35 (by decide) ?_
        refine lv_iload_n hx hb d_Md_merge_36 rfl (lv_at hl 1 rfl) ?_
        refine lv_iload_n hx hb d_Md_merge_37 rfl (lv_at hl 2 rfl) ?_
        refine lv_icmp_eq (x := qa) (y := qb) (tgt := 52) hx hb d_Md_merge_38 (by decide) (fun c38 => ?_) (fun c38 => ?_)
        · skip
          refine lv_iconst (v := 0) hx hb d_Md_merge_52 (by decide) ?_
          refine h_calli (va_runV (As := [.int 1, .int 0, .int 0]) (rest := []) ⟨hx, hb, hml, hown, htg⟩ (c_Md_goes l D cs N0 H x g i f true false false hsep hI) (cwV 3 htg (gw_V (gw_mem (i := 1092) (by decide +kernel) rfl) (gw_mem (i := 1094) (by decide +kernel) rfl) (gw_mem (i := 18) (by decide +kernel) rfl) (gw_mem (i := 38) (by decide +kernel) rfl) (gw_mem (i := 1095) (by decide +kernel) rfl)) rfl rfl rfl (by decide +kernel) ⟨Nat.le_of_ble_eq_true rfl, Nat.le_of_ble_eq_true rfl⟩) ⟨hPre.blind, hx_recv hK (ci := 0) rfl hI.1, hPre.at hB hS hsep.A⟩ rfl rfl hl.1 rfl (lv_room (Nat.le_of_ble_eq_true rfl)) d_Md_merge_53 ⟨Nat.zero_le _, Nat.zero_le _⟩) hS (fun _ h => h) (fun r53 H locs hp hz hk hS => ?_)
          obtain ⟨hI, er53⟩ := hp
          replace hI : md_I D cs H x g (upd i 0 2) f := hI
          refine lv_eqi (y := 0) er53 ?_
          refine lv_if_ne (x := 0) (tgt := 61) hx hb d_Md_merge_56 (by decide) (fun c56 => ?_) (fun c56 => ?_)
          · exact absurd c56 (by decide)
          · skip
            refine lv_iconst (v := 0) hx hb d_Md_merge_59 (by decide) ?_
            exact W.iret (v := 0) hx hb hr (fun t ht hW => ⟨⟨0, H, rfl, by dsimp only; have e0 : (isN n qa && isN n qb) = true := (by first | (simp [c6, c14, c28, c38]; done) | (simp [c6, c14, c28, c38]; omega) | omega | simp_all); have e1 : (decide (mg < 60)) = false := (by first | (simp [c6, c14, c28, c38]; done) | (simp [c6, c14, c28, c38]; omega) | omega | simp_all); have e2 : (!decide (qa = qb) && isD dy) = false := (by first | (simp [c6, c14, c28, c38]; done) | (simp [c6, c14, c28, c38]; omega) | omega | simp_all); rw [e0, e1, e2]; rw [if_neg (show ¬ goB true false false = true by simp [goB])]; exact ⟨hI, rfl⟩, ht⟩, hS.F ht⟩) hS.2.2 d_Md_merge_60
        · skip
          refine lv_iload_n hx hb d_Md_merge_41 rfl (lv_at hl 3 rfl) ?_
          refine h_calli (va_runS (As := [.int dy]) (rest := [.int 0, .int 1, .ref x]) ⟨hx, hb, hml, hown, htg⟩ (c_Md_isDay l D cs N0 H x g i f dy hsep hI) (cwS 1 htg (gw_S (gw_mem (i := 1112) (by decide +kernel) rfl) (gw_mem (i := 1113) (by decide +kernel) rfl) (gw_mem (i := 38) (by decide +kernel) rfl) (gw_mem (i := 1114) (by decide +kernel) rfl)) rfl rfl rfl (by decide +kernel) ⟨Nat.le_of_ble_eq_true rfl, Nat.le_of_ble_eq_true rfl⟩) ⟨hPre.blind, hPre.at hB hS hsep.A⟩ rfl rfl hl.1 rfl (lv_room (Nat.le_of_ble_eq_true rfl)) d_Md_merge_42 ⟨Nat.zero_le _, Nat.zero_le _⟩) hS (fun _ h => h) (fun r42 H locs hp hz hk hS => ?_)
          obtain ⟨hI, er42⟩ := hp
          refine lv_eqi (y := (bI (isD dy))) er42 ?_
          refine lv_if_eq (x := (bI (isD dy))) (tgt := 52) hx hb d_Md_merge_45 (by decide) (fun c45 => ?_) (fun c45 => ?_)
          · skip
            replace c45 : (isD dy) = false := bI_0 c45
            refine lv_iconst (v := 0) hx hb d_Md_merge_52 (by decide) ?_
            refine h_calli (va_runV (As := [.int 1, .int 0, .int 0]) (rest := []) ⟨hx, hb, hml, hown, htg⟩ (c_Md_goes l D cs N0 H x g i f true false false hsep hI) (cwV 3 htg (gw_V (gw_mem (i := 1092) (by decide +kernel) rfl) (gw_mem (i := 1094) (by decide +kernel) rfl) (gw_mem (i := 18) (by decide +kernel) rfl) (gw_mem (i := 38) (by decide +kernel) rfl) (gw_mem (i := 1095) (by decide +kernel) rfl)) rfl rfl rfl (by decide +kernel) ⟨Nat.le_of_ble_eq_true rfl, Nat.le_of_ble_eq_true rfl⟩) ⟨hPre.blind, hx_recv hK (ci := 0) rfl hI.1, hPre.at hB hS hsep.A⟩ rfl rfl hl.1 rfl (lv_room (Nat.le_of_ble_eq_true rfl)) d_Md_merge_53 ⟨Nat.zero_le _, Nat.zero_le _⟩) hS (fun _ h => h) (fun r53 H locs hp hz hk hS => ?_)
            obtain ⟨hI, er53⟩ := hp
            replace hI : md_I D cs H x g (upd i 0 2) f := hI
            refine lv_eqi (y := 0) er53 ?_
            refine lv_if_ne (x := 0) (tgt := 61) hx hb d_Md_merge_56 (by decide) (fun c56 => ?_) (fun c56 => ?_)
            · exact absurd c56 (by decide)
            · skip
              refine lv_iconst (v := 0) hx hb d_Md_merge_59 (by decide) ?_
              exact W.iret (v := 0) hx hb hr (fun t ht hW => ⟨⟨0, H, rfl, by dsimp only; have e0 : (isN n qa && isN n qb) = true := (by first | (simp [c6, c14, c28, c38, c45]; done) | (simp [c6, c14, c28, c38, c45]; omega) | omega | simp_all); have e1 : (decide (mg < 60)) = false := (by first | (simp [c6, c14, c28, c38, c45]; done) | (simp [c6, c14, c28, c38, c45]; omega) | omega | simp_all); have e2 : (!decide (qa = qb) && isD dy) = false := (by first | (simp [c6, c14, c28, c38, c45]; done) | (simp [c6, c14, c28, c38, c45]; omega) | omega | simp_all); rw [e0, e1, e2]; rw [if_neg (show ¬ goB true false false = true by simp [goB])]; exact ⟨hI, rfl⟩, ht⟩, hS.F ht⟩) hS.2.2 d_Md_merge_60
          · skip
            replace c45 : (isD dy) = true := bI_1 c45
            refine lv_iconst (v := 1) hx hb d_Md_merge_48 (by decide) ?_
            refine lv_goto (tgt := 53) hx hb d_Md_merge_49 (by decide) ?_
            refine h_calli (va_runV (As := [.int 1, .int 0, .int 1]) (rest := []) ⟨hx, hb, hml, hown, htg⟩ (c_Md_goes l D cs N0 H x g i f true false true hsep hI) (cwV 3 htg (gw_V (gw_mem (i := 1092) (by decide +kernel) rfl) (gw_mem (i := 1094) (by decide +kernel) rfl) (gw_mem (i := 18) (by decide +kernel) rfl) (gw_mem (i := 38) (by decide +kernel) rfl) (gw_mem (i := 1095) (by decide +kernel) rfl)) rfl rfl rfl (by decide +kernel) ⟨Nat.le_of_ble_eq_true rfl, Nat.le_of_ble_eq_true rfl⟩) ⟨hPre.blind, hx_recv hK (ci := 0) rfl hI.1, hPre.at hB hS hsep.A⟩ rfl rfl hl.1 rfl (lv_room (Nat.le_of_ble_eq_true rfl)) d_Md_merge_53 ⟨Nat.zero_le _, Nat.zero_le _⟩) hS (fun _ h => h) (fun r53 H locs hp hz hk hS => ?_)
            obtain ⟨hI, er53⟩ := hp
            replace hI : md_I D cs H x g (upd i 0 2) f := hI
            refine lv_eqi (y := 0) er53 ?_
            refine lv_if_ne (x := 0) (tgt := 61) hx hb d_Md_merge_56 (by decide) (fun c56 => ?_) (fun c56 => ?_)
            · exact absurd c56 (by decide)
            · skip
              refine lv_iconst (v := 0) hx hb d_Md_merge_59 (by decide) ?_
              exact W.iret (v := 0) hx hb hr (fun t ht hW => ⟨⟨0, H, rfl, by dsimp only; have e0 : (isN n qa && isN n qb) = true := (by first | (simp [c6, c14, c28, c38, c45]; done) | (simp [c6, c14, c28, c38, c45]; omega) | omega | simp_all); have e1 : (decide (mg < 60)) = false := (by first | (simp [c6, c14, c28, c38, c45]; done) | (simp [c6, c14, c28, c38, c45]; omega) | omega | simp_all); have e2 : (!decide (qa = qb) && isD dy) = true := (by first | (simp [c6, c14, c28, c38, c45]; done) | (simp [c6, c14, c28, c38, c45]; omega) | omega | simp_all); rw [e0, e1, e2]; rw [if_neg (show ¬ goB true false true = true by simp [goB])]; exact ⟨hI, rfl⟩, ht⟩, hS.F ht⟩) hS.2.2 d_Md_merge_60
      · skip
        replace c28 : ¬ (60 ≤ mg) := fun z9 => c28 ((nI_leI (a := 60) (b := mg) (by omega) (by omega)).mpr z9)
        refine lv_iconst (v := 1) hx hb d_Md_merge_31 (by decide) ?_
        refine lv_goto (tgt := 36) hx hb d_Md_merge_32 (by decide) ?_
        refine lv_iload_n hx hb d_Md_merge_36 rfl (lv_at hl 1 rfl) ?_
        refine lv_iload_n hx hb d_Md_merge_37 rfl (lv_at hl 2 rfl) ?_
        refine lv_icmp_eq (x := qa) (y := qb) (tgt := 52) hx hb d_Md_merge_38 (by decide) (fun c38 => ?_) (fun c38 => ?_)
        · skip
          refine lv_iconst (v := 0) hx hb d_Md_merge_52 (by decide) ?_
          refine h_calli (va_runV (As := [.int 1, .int 1, .int 0]) (rest := []) ⟨hx, hb, hml, hown, htg⟩ (c_Md_goes l D cs N0 H x g i f true true false hsep hI) (cwV 3 htg (gw_V (gw_mem (i := 1092) (by decide +kernel) rfl) (gw_mem (i := 1094) (by decide +kernel) rfl) (gw_mem (i := 18) (by decide +kernel) rfl) (gw_mem (i := 38) (by decide +kernel) rfl) (gw_mem (i := 1095) (by decide +kernel) rfl)) rfl rfl rfl (by decide +kernel) ⟨Nat.le_of_ble_eq_true rfl, Nat.le_of_ble_eq_true rfl⟩) ⟨hPre.blind, hx_recv hK (ci := 0) rfl hI.1, hPre.at hB hS hsep.A⟩ rfl rfl hl.1 rfl (lv_room (Nat.le_of_ble_eq_true rfl)) d_Md_merge_53 ⟨Nat.zero_le _, Nat.zero_le _⟩) hS (fun _ h => h) (fun r53 H locs hp hz hk hS => ?_)
          obtain ⟨hI, er53⟩ := hp
          replace hI : md_I D cs H x g (upd i 0 3) f := hI
          refine lv_eqi (y := 0) er53 ?_
          refine lv_if_ne (x := 0) (tgt := 61) hx hb d_Md_merge_56 (by decide) (fun c56 => ?_) (fun c56 => ?_)
          · exact absurd c56 (by decide)
          · skip
            refine lv_iconst (v := 0) hx hb d_Md_merge_59 (by decide) ?_
            exact W.iret (v := 0) hx hb hr (fun t ht hW => ⟨⟨0, H, rfl, by dsimp only; have e0 : (isN n qa && isN n qb) = true := (by first | (simp [c6, c14, c28, c38]; done) | (simp [c6, c14, c28, c38]; omega) | omega | simp_all); have e1 : (decide (mg < 60)) = true := (by first | (simp [c6, c14, c28, c38]; done) | (simp [c6, c14, c28, c38]; omega) | omega | simp_all); have e2 : (!decide (qa = qb) && isD dy) = false := (by first | (simp [c6, c14, c28, c38]; done) | (simp [c6, c14, c28, c38]; omega) | omega | simp_all); rw [e0, e1, e2]; rw [if_neg (show ¬ goB true true false = true by simp [goB])]; exact ⟨hI, rfl⟩, ht⟩, hS.F ht⟩) hS.2.2 d_Md_merge_60
        · skip
          refine lv_iload_n hx hb d_Md_merge_41 rfl (lv_at hl 3 rfl) ?_
          refine h_calli (va_runS (As := [.int dy]) (rest := [.int 1, .int 1, .ref x]) ⟨hx, hb, hml, hown, htg⟩ (c_Md_isDay l D cs N0 H x g i f dy hsep hI) (cwS 1 htg (gw_S (gw_mem (i := 1112) (by decide +kernel) rfl) (gw_mem (i := 1113) (by decide +kernel) rfl) (gw_mem (i := 38) (by decide +kernel) rfl) (gw_mem (i := 1114) (by decide +kernel) rfl)) rfl rfl rfl (by decide +kernel) ⟨Nat.le_of_ble_eq_true rfl, Nat.le_of_ble_eq_true rfl⟩) ⟨hPre.blind, hPre.at hB hS hsep.A⟩ rfl rfl hl.1 rfl (lv_room (Nat.le_of_ble_eq_true rfl)) d_Md_merge_42 ⟨Nat.zero_le _, Nat.zero_le _⟩) hS (fun _ h => h) (fun r42 H locs hp hz hk hS => ?_)
          obtain ⟨hI, er42⟩ := hp
          refine lv_eqi (y := (bI (isD dy))) er42 ?_
          refine lv_if_eq (x := (bI (isD dy))) (tgt := 52) hx hb d_Md_merge_45 (by decide) (fun c45 => ?_) (fun c45 => ?_)
          · skip
            replace c45 : (isD dy) = false := bI_0 c45
            refine lv_iconst (v := 0) hx hb d_Md_merge_52 (by decide) ?_
            refine h_calli (va_runV (As := [.int 1, .int 1, .int 0]) (rest := []) ⟨hx, hb, hml, hown, htg⟩ (c_Md_goes l D cs N0 H x g i f true true false hsep hI) (cwV 3 htg (gw_V (gw_mem (i := 1092) (by decide +kernel) rfl) (gw_mem (i := 1094) (by decide +kernel) rfl) (gw_mem (i := 18) (by decide +kernel) rfl) (gw_mem (i := 38) (by decide +kernel) rfl) (gw_mem (i := 1095) (by decide +kernel) rfl)) rfl rfl rfl (by decide +kernel) ⟨Nat.le_of_ble_eq_true rfl, Nat.le_of_ble_eq_true rfl⟩) ⟨hPre.blind, hx_recv hK (ci := 0) rfl hI.1, hPre.at hB hS hsep.A⟩ rfl rfl hl.1 rfl (lv_room (Nat.le_of_ble_eq_true rfl)) d_Md_merge_53 ⟨Nat.zero_le _, Nat.zero_le _⟩) hS (fun _ h => h) (fun r53 H locs hp hz hk hS => ?_)
            obtain ⟨hI, er53⟩ := hp
            replace hI : md_I D cs H x g (upd i 0 3) f := hI
            refine lv_eqi (y := 0) er53 ?_
            refine lv_if_ne (x := 0) (tgt := 61) hx hb d_Md_merge_56 (by decide) (fun c56 => ?_) (fun c56 => ?_)
            · exact absurd c56 (by decide)
            · skip
              refine lv_iconst (v := 0) hx hb d_Md_merge_59 (by decide) ?_
              exact W.iret (v := 0) hx hb hr (fun t ht hW => ⟨⟨0, H, rfl, by dsimp only; have e0 : (isN n qa && isN n qb) = true := (by first | (simp [c6, c14, c28, c38, c45]; done) | (simp [c6, c14, c28, c38, c45]; omega) | omega | simp_all); have e1 : (decide (mg < 60)) = true := (by first | (simp [c6, c14, c28, c38, c45]; done) | (simp [c6, c14, c28, c38, c45]; omega) | omega | simp_all); have e2 : (!decide (qa = qb) && isD dy) = false := (by first | (simp [c6, c14, c28, c38, c45]; done) | (simp [c6, c14, c28, c38, c45]; omega) | omega | simp_all); rw [e0, e1, e2]; rw [if_neg (show ¬ goB true true false = true by simp [goB])]; exact ⟨hI, rfl⟩, ht⟩, hS.F ht⟩) hS.2.2 d_Md_merge_60
          · skip
            replace c45 : (isD dy) = true := bI_1 c45
            refine lv_iconst (v := 1) hx hb d_Md_merge_48 (by decide) ?_
            refine lv_goto (tgt := 53) hx hb d_Md_merge_49 (by decide) ?_
            refine h_calli (va_runV (As := [.int 1, .int 1, .int 1]) (rest := []) ⟨hx, hb, hml, hown, htg⟩ (c_Md_goes l D cs N0 H x g i f true true true hsep hI) (cwV 3 htg (gw_V (gw_mem (i := 1092) (by decide +kernel) rfl) (gw_mem (i := 1094) (by decide +kernel) rfl) (gw_mem (i := 18) (by decide +kernel) rfl) (gw_mem (i := 38) (by decide +kernel) rfl) (gw_mem (i := 1095) (by decide +kernel) rfl)) rfl rfl rfl (by decide +kernel) ⟨Nat.le_of_ble_eq_true rfl, Nat.le_of_ble_eq_true rfl⟩) ⟨hPre.blind, hx_recv hK (ci := 0) rfl hI.1, hPre.at hB hS hsep.A⟩ rfl rfl hl.1 rfl (lv_room (Nat.le_of_ble_eq_true rfl)) d_Md_merge_53 ⟨Nat.zero_le _, Nat.zero_le _⟩) hS (fun _ h => h) (fun r53 H locs hp hz hk hS => ?_)
            obtain ⟨hI, er53⟩ := hp
            replace hI : md_I D cs H x g (upd i 0 0) f := hI
            refine lv_eqi (y := 1) er53 ?_
            refine lv_if_ne (x := 1) (tgt := 61) hx hb d_Md_merge_56 (by decide) (fun c56 => ?_) (fun c56 => ?_)
            · skip
              obtain ⟨ha, ea⟩ := isN_n c6 (by omega)
              obtain ⟨hb1, eb⟩ := isN_n c14 (by omega)
              refine lv_aload_n hx hb d_Md_merge_61 rfl (lv_at hl 0 rfl) ?_
              refine hx_get (v := .ref (g 9)) hx hb htg iMd hown hK hI.1 rfl 12 (by decide) (htg _ (gw_mem (i := 1010) (by decide +kernel) rfl)) (fun _ h9 => h9) rfl d_Md_merge_62 ?_
              refine lv_bipush (v := 24) hx hb d_Md_merge_65 (by decide) ?_
              refine lv_iload_n hx hb d_Md_merge_67 rfl (lv_at hl 1 rfl) ?_
              refine lv_eqi (y := (nI (tn qa))) ea ?_
              refine lv_imul (x := 24) (y := (nI (tn qa))) hx hb d_Md_merge_68 ?_
              refine lv_eqi (y := (nI (24 * (tn qa)))) (pk_mul 24 (tn qa)) ?_
              refine lv_iload_n hx hb d_Md_merge_69 rfl (lv_at hl 2 rfl) ?_
              refine lv_eqi (y := (nI (tn qb))) eb ?_
              refine lv_iadd (x := (nI (24 * (tn qa)))) (y := (nI (tn qb))) hx hb d_Md_merge_70 ?_
              refine lv_eqi (y := (nI (24 * (tn qa) + tn qb))) (nI_add (24 * (tn qa)) (tn qb)) ?_
              refine hx_iald hx hb hK 0 (hI.2 9 (by decide)) rfl (show vp_in (nI (24 * (tn qa) + tn qb)) 576 from vp_in_nI (n := 24 * (tn qa) + tn qb) (by omega) (by decide)) d_Md_merge_71 ?_
              refine lv_eqi (y := (f 9 (24 * (tn qa) + tn qb))) (show f 9 (nI (24 * (tn qa) + tn qb)).toNatClampNeg = _ by rw [nI_clamp (by omega)]) ?_
              refine lv_iconst (v := 2) hx hb d_Md_merge_72 (by decide) ?_
              refine lv_icmp_ne (x := (f 9 (24 * (tn qa) + tn qb))) (y := 2) (tgt := 78) hx hb d_Md_merge_73 (by decide) (fun c73 => ?_) (fun c73 => ?_)
              · skip
                refine lv_aload_n hx hb d_Md_merge_78 rfl (lv_at hl 0 rfl) ?_
                refine lv_iload_n hx hb d_Md_merge_79 rfl (lv_at hl 1 rfl) ?_
                refine lv_eqi (y := (nI (tn qa))) ea ?_
                refine lv_iload_n hx hb d_Md_merge_80 rfl (lv_at hl 2 rfl) ?_
                refine lv_eqi (y := (nI (tn qb))) eb ?_
                refine lv_iload_n hx hb d_Md_merge_81 rfl (lv_at hl 3 rfl) ?_
                refine h_calli (va_runV (As := [.int (nI (tn qa)), .int (nI (tn qb)), .int dy]) (rest := []) ⟨hx, hb, hml, hown, htg⟩ (c_Md_everOne l D cs N0 H x g ((upd i 0 0)) f (tn qa) (tn qb) dy hsep hI mg hmg hmg60 mo mt hone hoth (by omega) (by omega)) (cwV 3 htg (gw_V (gw_mem (i := 1160) (by decide +kernel) rfl) (gw_mem (i := 1162) (by decide +kernel) rfl) (gw_mem (i := 24) (by decide +kernel) rfl) (gw_mem (i := 38) (by decide +kernel) rfl) (gw_mem (i := 1163) (by decide +kernel) rfl)) rfl rfl rfl (by decide +kernel) ⟨Nat.le_of_ble_eq_true rfl, Nat.le_of_ble_eq_true rfl⟩) ⟨hPre.blind, hx_recv hK (ci := 0) rfl hI.1, hPre.at hB hS hsep.A⟩ rfl rfl hl.1 rfl (lv_room (Nat.le_of_ble_eq_true rfl)) d_Md_merge_82 ⟨Nat.zero_le _, Nat.zero_le _⟩) hS (fun _ h => h) (fun r82 H locs hp hz hk hS => ?_)
                obtain ⟨G, hI, er82⟩ := hp
                refine lv_eqi (y := (bI (evB f mo mt mg (tn qa) (tn qb) dy))) er82 ?_
                refine lv_if_eq (x := (bI (evB f mo mt mg (tn qa) (tn qb) dy))) (tgt := 90) hx hb d_Md_merge_85 (by decide) (fun c85 => ?_) (fun c85 => ?_)
                · skip
                  replace c85 : (evB f mo mt mg (tn qa) (tn qb) dy) = false := bI_0 c85
                  refine lv_aload_n hx hb d_Md_merge_90 rfl (lv_at hl 0 rfl) ?_
                  refine hx_get (v := .ref (g 13)) hx hb htg iMd hown hK hI.1 rfl 17 (by decide) (htg _ (gw_mem (i := 1015) (by decide +kernel) rfl)) (fun _ h9 => h9) rfl d_Md_merge_91 ?_
                  refine lv_aload_n hx hb d_Md_merge_94 rfl (lv_at hl 0 rfl) ?_
                  refine hx_get (v := .int (i 3)) hx hb htg iMd hown hK hI.1 rfl 16 (by decide) (htg _ (gw_mem (i := 1014) (by decide +kernel) rfl)) (fun _ h9 => h9) rfl d_Md_merge_95 ?_
                  refine lv_eqi (y := (nI mg)) hmg ?_
                  refine lv_iload_n hx hb d_Md_merge_98 rfl (lv_at hl 1 rfl) ?_
                  refine hx_iast hx hb hK hS (Or.inr ⟨13, by decide, rfl⟩) 0 (hI.2 13 (by decide)) rfl (show vp_in (nI mg) 60 from vp_in_nI (n := mg) (by omega) (by decide)) d_Md_merge_99 (fun H locs hat hz ho hS => ?_)
                  replace hI : md_I D cs H x g (upd i 0 0) (updA (setA f 17 G) 13 mg (qa)) := md_I.puta hI hsep (by decide) (by rw [show ((nI mg) : Int32).toNatClampNeg = mg from nI_clamp (n := mg) (by omega)] at hat; exact hat) ho
                  refine lv_aload_n hx hb d_Md_merge_100 rfl (lv_at hl 0 rfl) ?_
                  refine hx_get (v := .ref (g 14)) hx hb htg iMd hown hK hI.1 rfl 18 (by decide) (htg _ (gw_mem (i := 1016) (by decide +kernel) rfl)) (fun _ h9 => h9) rfl d_Md_merge_101 ?_
                  refine lv_aload_n hx hb d_Md_merge_104 rfl (lv_at hl 0 rfl) ?_
                  refine hx_get (v := .int (i 3)) hx hb htg iMd hown hK hI.1 rfl 16 (by decide) (htg _ (gw_mem (i := 1014) (by decide +kernel) rfl)) (fun _ h9 => h9) rfl d_Md_merge_105 ?_
                  refine lv_eqi (y := (nI mg)) hmg ?_
                  refine lv_iload_n hx hb d_Md_merge_108 rfl (lv_at hl 2 rfl) ?_
                  refine hx_iast hx hb hK hS (Or.inr ⟨14, by decide, rfl⟩) 0 (hI.2 14 (by decide)) rfl (show vp_in (nI mg) 60 from vp_in_nI (n := mg) (by omega) (by decide)) d_Md_merge_109 (fun H locs hat hz ho hS => ?_)
                  replace hI : md_I D cs H x g (upd i 0 0) (updA (updA (setA f 17 G) 13 mg (qa)) 14 mg (qb)) := md_I.puta hI hsep (by decide) (by rw [show ((nI mg) : Int32).toNatClampNeg = mg from nI_clamp (n := mg) (by omega)] at hat; exact hat) ho
                  refine lv_aload_n hx hb d_Md_merge_110 rfl (lv_at hl 0 rfl) ?_
                  refine hx_get (v := .ref (g 15)) hx hb htg iMd hown hK hI.1 rfl 19 (by decide) (htg _ (gw_mem (i := 1017) (by decide +kernel) rfl)) (fun _ h9 => h9) rfl d_Md_merge_111 ?_
                  refine lv_aload_n hx hb d_Md_merge_114 rfl (lv_at hl 0 rfl) ?_
                  refine hx_get (v := .int (i 3)) hx hb htg iMd hown hK hI.1 rfl 16 (by decide) (htg _ (gw_mem (i := 1014) (by decide +kernel) rfl)) (fun _ h9 => h9) rfl d_Md_merge_115 ?_
                  refine lv_eqi (y := (nI mg)) hmg ?_
                  refine lv_iload_n hx hb d_Md_merge_118 rfl (lv_at hl 3 rfl) ?_
                  refine hx_iast hx hb hK hS (Or.inr ⟨15, by decide, rfl⟩) 0 (hI.2 15 (by decide)) rfl (show vp_in (nI mg) 60 from vp_in_nI (n := mg) (by omega) (by decide)) d_Md_merge_119 (fun H locs hat hz ho hS => ?_)
                  replace hI : md_I D cs H x g (upd i 0 0) (updA (updA (updA (setA f 17 G) 13 mg (qa)) 14 mg (qb)) 15 mg (dy)) := md_I.puta hI hsep (by decide) (by rw [show ((nI mg) : Int32).toNatClampNeg = mg from nI_clamp (n := mg) (by omega)] at hat; exact hat) ho
                  refine lv_aload_n hx hb d_Md_merge_120 rfl (lv_at hl 0 rfl) ?_
                  refine hx_get (v := .ref (g 16)) hx hb htg iMd hown hK hI.1 rfl 20 (by decide) (htg _ (gw_mem (i := 1018) (by decide +kernel) rfl)) (fun _ h9 => h9) rfl d_Md_merge_121 ?_
                  refine lv_aload_n hx hb d_Md_merge_124 rfl (lv_at hl 0 rfl) ?_
                  refine hx_get (v := .int (i 3)) hx hb htg iMd hown hK hI.1 rfl 16 (by decide) (htg _ (gw_mem (i := 1014) (by decide +kernel) rfl)) (fun _ h9 => h9) rfl d_Md_merge_125 ?_
                  refine lv_eqi (y := (nI mg)) hmg ?_
                  refine lv_iconst (v := (-1)) hx hb d_Md_merge_128 (by decide) ?_
                  refine hx_iast hx hb hK hS (Or.inr ⟨16, by decide, rfl⟩) 0 (hI.2 16 (by decide)) rfl (show vp_in (nI mg) 60 from vp_in_nI (n := mg) (by omega) (by decide)) d_Md_merge_129 (fun H locs hat hz ho hS => ?_)
                  replace hI : md_I D cs H x g (upd i 0 0) (updA (updA (updA (updA (setA f 17 G) 13 mg (qa)) 14 mg (qb)) 15 mg (dy)) 16 mg ((-1))) := md_I.puta hI hsep (by decide) (by rw [show ((nI mg) : Int32).toNatClampNeg = mg from nI_clamp (n := mg) (by omega)] at hat; exact hat) ho
                  refine lv_aload_n hx hb d_Md_merge_130 rfl (lv_at hl 0 rfl) ?_
                  refine lv_dup hx hb d_Md_merge_131 rfl ?_
                  refine hx_get (v := .int (i 3)) hx hb htg iMd hown hK hI.1 rfl 16 (by decide) (htg _ (gw_mem (i := 1014) (by decide +kernel) rfl)) (fun _ h9 => h9) rfl d_Md_merge_132 ?_
                  refine lv_eqi (y := (nI mg)) hmg ?_
                  refine lv_iconst (v := 1) hx hb d_Md_merge_135 (by decide) ?_
                  refine lv_iadd (x := (nI mg)) (y := 1) hx hb d_Md_merge_136 ?_
                  refine lv_eqi (y := (nI (mg + 1))) (nI_add mg 1) ?_
                  refine hx_put (ty := .int) (v := .int (nI (mg + 1))) hx hb htg iMd tMd tMd_ok nMd hown hK hI.1 hS (Or.inl rfl) rfl 16 (by decide) (htg _ (gw_mem (i := 1014) (by decide +kernel) rfl)) (fun _ h9 => h9) rfl (by decide +kernel) rfl rfl (Nat.le_of_ble_eq_true rfl) d_Md_merge_137 (fun H locs hat hz ho hS => ?_)
                  replace hI : md_I D cs H x g (upd (upd i 0 0) 3 ((nI (mg + 1)))) (updA (updA (updA (updA (setA f 17 G) 13 mg (qa)) 14 mg (qb)) 15 mg (dy)) 16 mg ((-1))) := md_I.puti hI hsep hat ho rfl
                  refine lv_iconst (v := 0) hx hb d_Md_merge_140 (by decide) ?_
                  exact W.iret (v := 0) hx hb hr (fun t ht hW => ⟨⟨0, H, rfl, by dsimp only; have e0 : (isN n qa && isN n qb) = true := (by first | (simp [c6, c14, c28, c38, c45, c73, c85]; done) | (simp [c6, c14, c28, c38, c45, c73, c85]; omega) | omega | simp_all); have e1 : (decide (mg < 60)) = true := (by first | (simp [c6, c14, c28, c38, c45, c73, c85]; done) | (simp [c6, c14, c28, c38, c45, c73, c85]; omega) | omega | simp_all); have e2 : (!decide (qa = qb) && isD dy) = true := (by first | (simp [c6, c14, c28, c38, c45, c73, c85]; done) | (simp [c6, c14, c28, c38, c45, c73, c85]; omega) | omega | simp_all); rw [e0, e1, e2]; rw [if_pos (show goB true true true = true from rfl)]; exact (by rw [if_neg c73, if_neg (by rw [c85]; decide)]; exact ⟨G, by rw [← updA_setA (by decide), ← updA_setA (by decide), ← updA_setA (by decide), ← updA_setA (by decide)]; exact hI, rfl⟩), ht⟩, hS.F ht⟩) hS.2.2 d_Md_merge_141
                · skip
                  replace c85 : (evB f mo mt mg (tn qa) (tn qb) dy) = true := bI_1 c85
                  refine lv_iconst (v := 2) hx hb d_Md_merge_88 (by decide) ?_
                  exact W.iret (v := 2) hx hb hr (fun t ht hW => ⟨⟨2, H, rfl, by dsimp only; have e0 : (isN n qa && isN n qb) = true := (by first | (simp [c6, c14, c28, c38, c45, c73, c85]; done) | (simp [c6, c14, c28, c38, c45, c73, c85]; omega) | omega | simp_all); have e1 : (decide (mg < 60)) = true := (by first | (simp [c6, c14, c28, c38, c45, c73, c85]; done) | (simp [c6, c14, c28, c38, c45, c73, c85]; omega) | omega | simp_all); have e2 : (!decide (qa = qb) && isD dy) = true := (by first | (simp [c6, c14, c28, c38, c45, c73, c85]; done) | (simp [c6, c14, c28, c38, c45, c73, c85]; omega) | omega | simp_all); rw [e0, e1, e2]; rw [if_pos (show goB true true true = true from rfl)]; exact (by rw [if_neg c73, if_pos c85]; exact ⟨G, hI, rfl⟩), ht⟩, hS.F ht⟩) hS.2.2 d_Md_merge_89
              · skip
                refine lv_iconst (v := 1) hx hb d_Md_merge_76 (by decide) ?_
                exact W.iret (v := 1) hx hb hr (fun t ht hW => ⟨⟨1, H, rfl, by dsimp only; have e0 : (isN n qa && isN n qb) = true := (by first | (simp [c6, c14, c28, c38, c45, c73]; done) | (simp [c6, c14, c28, c38, c45, c73]; omega) | omega | simp_all); have e1 : (decide (mg < 60)) = true := (by first | (simp [c6, c14, c28, c38, c45, c73]; done) | (simp [c6, c14, c28, c38, c45, c73]; omega) | omega | simp_all); have e2 : (!decide (qa = qb) && isD dy) = true := (by first | (simp [c6, c14, c28, c38, c45, c73]; done) | (simp [c6, c14, c28, c38, c45, c73]; omega) | omega | simp_all); rw [e0, e1, e2]; rw [if_pos (show goB true true true = true from rfl)]; exact (by rw [if_pos c73]; exact ⟨hI, rfl⟩), ht⟩, hS.F ht⟩) hS.2.2 d_Md_merge_77
            · exact absurd c56 (by decide)
def y_Md_as : MethodName := ⟨"NameMergesModel", "as", "(II)I"⟩
abbrev w_Md_as : List Cond := Cond.code y_Md_as prog_7_method_23_code 3 (Option.some Jvm.ClassFile.FieldType.int) :: gw
theorem d_Md_as_0 : decode prog_7_method_23_code 0 = .ok (.aload_n 0, 1) := by decide +kernel
theorem d_Md_as_1 : decode prog_7_method_23_code 1 = .ok (.aload_n 0, 1) := by decide +kernel
theorem d_Md_as_2 : decode prog_7_method_23_code 2 = .ok (.iload_n 1, 1) := by decide +kernel
theorem d_Md_as_3 : decode prog_7_method_23_code 3 = .ok (.invokevirtual 92, 3) := by decide +kernel
theorem d_Md_as_6 : decode prog_7_method_23_code 6 = .ok (.iload_n 2, 1) := by decide +kernel
theorem d_Md_as_7 : decode prog_7_method_23_code 7 = .ok (.invokestatic 96, 3) := by decide +kernel
theorem d_Md_as_10 : decode prog_7_method_23_code 10 = .ok (.iconst 1, 1) := by decide +kernel
theorem d_Md_as_11 : decode prog_7_method_23_code 11 = .ok (.invokevirtual 88, 3) := by decide +kernel
theorem d_Md_as_14 : decode prog_7_method_23_code 14 = .ok (.ifCond .ne 5, 3) := by decide +kernel
theorem d_Md_as_17 : decode prog_7_method_23_code 17 = .ok (.iconst 0, 1) := by decide +kernel
theorem d_Md_as_18 : decode prog_7_method_23_code 18 = .ok (.ireturn, 1) := by decide +kernel
theorem d_Md_as_19 : decode prog_7_method_23_code 19 = .ok (.aload_n 0, 1) := by decide +kernel
theorem d_Md_as_20 : decode prog_7_method_23_code 20 = .ok (.iload_n 2, 1) := by decide +kernel
theorem d_Md_as_21 : decode prog_7_method_23_code 21 = .ok (.invokevirtual 109, 3) := by decide +kernel
theorem d_Md_as_24 : decode prog_7_method_23_code 24 = .ok (.aload_n 0, 1) := by decide +kernel
theorem d_Md_as_25 : decode prog_7_method_23_code 25 = .ok (.getfield 62, 3) := by decide +kernel
theorem d_Md_as_28 : decode prog_7_method_23_code 28 = .ok (.iload_n 1, 1) := by decide +kernel
theorem d_Md_as_29 : decode prog_7_method_23_code 29 = .ok (.iaload, 1) := by decide +kernel
theorem d_Md_as_30 : decode prog_7_method_23_code 30 = .ok (.ireturn, 1) := by decide +kernel
set_option maxHeartbeats 4000000 in
set_option maxRecDepth 100000 in
theorem c_Md_as (l : Launch) (D : va_G) (cs : Nat → ClassId) (N0 : Nat) (H : Heap) (x : Nat) (g : Nat → Nat) (i : Nat → Int32) (f : Nat → Nat → Int32) (q dy : Int32) (hsep : md_sep N0 x g) (hI : md_I D cs H x g i f) (n : Nat) (hn : i 2 = nI n) (hn24 : n ≤ 24) (mg : Nat) (hmg : i 3 = nI mg) (hmg60 : mg ≤ 60) (mo mt : Nat → Nat) (hone : ∀ k, k < mg → f 13 k = nI (mo k) ∧ mo k < 24) (hoth : ∀ k, k < mg → f 14 k = nI (mt k) ∧ mt k < 24) : Met l y_Md_as w_Md_as ({ frames := 1, cells := 0, slots := 0, locals := 25 }) (hPre D cs N0 [.ref x, .int q, .int dy] H) (hQi (fun r H' => if goB (isN n q) (isD dy) true = true then (∃ (G : Nat → Int32) (z : Nat), md_I D cs H' x g (upd i 0 (goV (isN n q) (isD dy) true)) (setA f 17 G) ∧ r = nI z ∧ conn mo mt (holdB f dy) mg (tn q) z ∧ ∀ y, conn mo mt (holdB f dy) mg (tn q) y → z ≤ y) else (md_I D cs H' x g (upd i 0 (goV (isN n q) (isD dy) true)) f ∧ r = 0)) (md_A x g)) 0 0 (md_A x g) := by
  refine Met.ofW (cc := prog_7_method_23_code) (maxL := 3) (ret := (Option.some Jvm.ClassFile.FieldType.int)) (by decide) rfl ?_
  intro p e s m args below meth c s₁ B hml hv
  obtain ⟨rfl, rfl, hB⟩ := hv
  have hx := B.exec
  have hb := B.bytes
  have hr := B.returns
  have hts := atoms_spec (ws := w_Md_as) B.pre
  have htg : ∀ w ∈ gw, w.before _ s = true := fun w h => hts w (List.mem_cons_of_mem _ h)
  have hown : s.vm.findClass "NameMergesModel" = some m.cls := findClass_of_methodNamed B.named
  have hlocks := B.notSynchronized
  have hK := hB.1
  have hS : va_S (md_A x g) s.heap s.heap [] := va_S.rf
  obtain ⟨H, hH⟩ : ∃ z : Heap, z = s.heap := ⟨_, rfl⟩
  rw [← hH] at hI
  have hS : va_S (md_A x g) s.heap H [] := by rw [hH]; exact va_S.rf
  have hl := lv_entry ([.ref x, .int q, .int dy]) (n := 3) (Nat.le_of_ble_eq_true rfl)
  rw [lg_entry_eq, ← hH]
  generalize (lg_sl ([.ref x, .int q, .int dy]) ++ List.replicate (3 - (lg_sl ([.ref x, .int q, .int dy])).length) Slot.unset).toArray = ls at hl ⊢
  have hl : lv_has ls 3 [(0, .ref x), (1, .int q), (2, .int dy)] := hl
  refine lv_aload_n hx hb d_Md_as_0 rfl (lv_at hl 0 rfl) ?_
  refine lv_aload_n hx hb d_Md_as_1 rfl (lv_at hl 0 rfl) ?_
  refine lv_iload_n hx hb d_Md_as_2 rfl (lv_at hl 1 rfl) ?_
  refine h_calli (va_runV (As := [.int q]) (rest := [.ref x]) ⟨hx, hb, hml, hown, htg⟩ (c_Md_isName l D cs N0 H x g i f q hsep hI n hn) (cwV 1 htg (gw_V (gw_mem (i := 1108) (by decide +kernel) rfl) (gw_mem (i := 1110) (by decide +kernel) rfl) (gw_mem (i := 19) (by decide +kernel) rfl) (gw_mem (i := 38) (by decide +kernel) rfl) (gw_mem (i := 1111) (by decide +kernel) rfl)) rfl rfl rfl (by decide +kernel) ⟨Nat.le_of_ble_eq_true rfl, Nat.le_of_ble_eq_true rfl⟩) ⟨hPre.blind, hx_recv hK (ci := 0) rfl hI.1, hPre.at hB hS hsep.A⟩ rfl rfl hl.1 rfl (lv_room (Nat.le_of_ble_eq_true rfl)) d_Md_as_3 ⟨Nat.zero_le _, Nat.zero_le _⟩) hS (fun _ h => h) (fun r3 H locs hp hz hk hS => ?_)
  obtain ⟨hI, er3⟩ := hp
  refine lv_eqi (y := (bI (isN n q))) er3 ?_
  refine lv_iload_n hx hb d_Md_as_6 rfl (lv_at hl 2 rfl) ?_
  refine h_calli (va_runS (As := [.int dy]) (rest := [.int (bI (isN n q)), .ref x]) ⟨hx, hb, hml, hown, htg⟩ (c_Md_isDay l D cs N0 H x g i f dy hsep hI) (cwS 1 htg (gw_S (gw_mem (i := 1112) (by decide +kernel) rfl) (gw_mem (i := 1113) (by decide +kernel) rfl) (gw_mem (i := 38) (by decide +kernel) rfl) (gw_mem (i := 1114) (by decide +kernel) rfl)) rfl rfl rfl (by decide +kernel) ⟨Nat.le_of_ble_eq_true rfl, Nat.le_of_ble_eq_true rfl⟩) ⟨hPre.blind, hPre.at hB hS hsep.A⟩ rfl rfl hl.1 rfl (lv_room (Nat.le_of_ble_eq_true rfl)) d_Md_as_7 ⟨Nat.zero_le _, Nat.zero_le _⟩) hS (fun _ h => h) (fun r7 H locs hp hz hk hS => ?_)
  obtain ⟨hI, er7⟩ := hp
  refine lv_eqi (y := (bI (isD dy))) er7 ?_
  refine lv_iconst (v := 1) hx hb d_Md_as_10 (by decide) ?_
  refine h_calli (va_runV (As := [.int (bI (isN n q)), .int (bI (isD dy)), .int 1]) (rest := []) ⟨hx, hb, hml, hown, htg⟩ (c_Md_goes l D cs N0 H x g i f (isN n q) (isD dy) true hsep hI) (cwV 3 htg (gw_V (gw_mem (i := 1092) (by decide +kernel) rfl) (gw_mem (i := 1094) (by decide +kernel) rfl) (gw_mem (i := 18) (by decide +kernel) rfl) (gw_mem (i := 38) (by decide +kernel) rfl) (gw_mem (i := 1095) (by decide +kernel) rfl)) rfl rfl rfl (by decide +kernel) ⟨Nat.le_of_ble_eq_true rfl, Nat.le_of_ble_eq_true rfl⟩) ⟨hPre.blind, hx_recv hK (ci := 0) rfl hI.1, hPre.at hB hS hsep.A⟩ rfl rfl hl.1 rfl (lv_room (Nat.le_of_ble_eq_true rfl)) d_Md_as_11 ⟨Nat.zero_le _, Nat.zero_le _⟩) hS (fun _ h => h) (fun r11 H locs hp hz hk hS => ?_)
  obtain ⟨hI, er11⟩ := hp
  refine lv_eqi (y := (bI (goB (isN n q) (isD dy) true))) er11 ?_
  refine lv_if_ne (x := (bI (goB (isN n q) (isD dy) true))) (tgt := 19) hx hb d_Md_as_14 (by decide) (fun c14 => ?_) (fun c14 => ?_)
  · skip
    replace c14 : (goB (isN n q) (isD dy) true) = true := bI_1 c14
    have hq : isN n q = true := by revert c14; simp [goB]; intro z9 _; exact z9
    obtain ⟨ha, ea⟩ := isN_n hq (by omega)
    refine lv_aload_n hx hb d_Md_as_19 rfl (lv_at hl 0 rfl) ?_
    refine lv_iload_n hx hb d_Md_as_20 rfl (lv_at hl 2 rfl) ?_
    refine h_callv (va_runV (As := [.int dy]) (rest := []) ⟨hx, hb, hml, hown, htg⟩ (c_Md_join l D cs N0 H x g ((upd i 0 (goV (isN n q) (isD dy) true))) f dy hsep hI mg hmg hmg60 mo mt hone hoth) (cwV 1 htg (gw_V (gw_mem (i := 1136) (by decide +kernel) rfl) (gw_mem (i := 1138) (by decide +kernel) rfl) (gw_mem (i := 22) (by decide +kernel) rfl) (gw_mem (i := 38) (by decide +kernel) rfl) (gw_mem (i := 1139) (by decide +kernel) rfl)) rfl rfl rfl (by decide +kernel) ⟨Nat.le_of_ble_eq_true rfl, Nat.le_of_ble_eq_true rfl⟩) ⟨hPre.blind, hx_recv hK (ci := 0) rfl hI.1, hPre.at hB hS hsep.A⟩ rfl rfl hl.1 rfl (lv_room (Nat.le_of_ble_eq_true rfl)) d_Md_as_21 ⟨Nat.zero_le _, Nat.zero_le _⟩) hS (fun _ h => h) (fun  H locs hp hz hk hS => ?_)
    obtain ⟨G, gl, hI, hGgl, hCgl⟩ := hp
    refine lv_aload_n hx hb d_Md_as_24 rfl (lv_at hl 0 rfl) ?_
    refine hx_get (v := .ref (g 17)) hx hb htg iMd hown hK hI.1 rfl 21 (by decide) (htg _ (gw_mem (i := 1019) (by decide +kernel) rfl)) (fun _ h9 => h9) rfl d_Md_as_25 ?_
    refine lv_iload_n hx hb d_Md_as_28 rfl (lv_at hl 1 rfl) ?_
    refine lv_eqi (y := (nI (tn q))) ea ?_
    refine hx_iald hx hb hK 0 (hI.2 17 (by decide)) rfl (show vp_in (nI (tn q)) 24 from vp_in_nI (n := tn q) (by omega) (by decide)) d_Md_as_29 ?_
    refine lv_eqi (y := ((setA f 17 G) 17 (tn q))) (show (setA f 17 G) 17 (nI (tn q)).toNatClampNeg = _ by rw [nI_clamp (by omega)]) ?_
    refine lv_eqi (y := (nI (gl (tn q)))) (by rw [setA_self]; exact (hGgl (tn q) (by omega)).1) ?_
    exact W.iret (v := (nI (gl (tn q)))) hx hb hr (fun t ht hW => ⟨⟨(nI (gl (tn q))), H, rfl, by dsimp only; rw [if_pos c14]; exact ⟨G, gl (tn q), hI, rfl, gl_least hGgl hCgl (fun k hk => ⟨(hone k hk).2, (hoth k hk).2⟩) (by omega)⟩, ht⟩, hS.F ht⟩) hS.2.2 d_Md_as_30
  · skip
    replace c14 : (goB (isN n q) (isD dy) true) = false := bI_0 c14
    refine lv_iconst (v := 0) hx hb d_Md_as_17 (by decide) ?_
    exact W.iret (v := 0) hx hb hr (fun t ht hW => ⟨⟨0, H, rfl, by dsimp only; rw [if_neg (show ¬ goB (isN n q) (isD dy) true = true by rw [c14]; decide)]; exact ⟨hI, rfl⟩, ht⟩, hS.F ht⟩) hS.2.2 d_Md_as_18
end
section
def partP (f : Nat → Nat → Int32) (qa qb dy : Int32) : Nat → Bool := fun k => ((decide (f 13 k = qa) && decide (f 14 k = qb)) || (decide (f 13 k = qb) && decide (f 14 k = qa))) && decide (f 16 k = -1) && !decide (dy ≤ f 15 k)
def lcsR (t : Nat → Int32) (pv : Nat → Nat) (c : Int32) : Nat → Nat
  | 0 => 0
  | j + 1 => if c = t j then pv j + 1 else if lcsR t pv c j < pv (j + 1) then pv (j + 1) else lcsR t pv c j
def lcs (s t : Nat → Int32) : Nat → Nat → Nat
  | 0 => fun _ => 0
  | i + 1 => lcsR t (lcs s t i) (s i)
theorem lcs_0 (s t : Nat → Int32) (a : Nat) : lcs s t a 0 = 0 := by cases a <;> rfl
theorem lcs_step {s t : Nat → Int32} {a b : Nat} (ha : 0 < a) (hb : 0 < b) : lcs s t a b = if s (a - 1) = t (b - 1) then lcs s t (a - 1) (b - 1) + 1 else if lcs s t a (b - 1) < lcs s t (a - 1) b then lcs s t (a - 1) b else lcs s t a (b - 1) := by
  cases a with
  | zero => omega
  | succ a => cases b with
    | zero => omega
    | succ b => rfl
theorem lcs_le (s t : Nat → Int32) : ∀ a b, lcs s t a b ≤ b := by
  intro a
  induction a with
  | zero => intro b; exact Nat.zero_le _
  | succ a ih =>
    intro b
    induction b with
    | zero => exact Nat.le_refl 0
    | succ b ih2 =>
      rw [lcs_step (by omega) (by omega)]
      show (if s a = t b then lcs s t a b + 1 else if lcs s t (a + 1) b < lcs s t a (b + 1) then lcs s t a (b + 1) else lcs s t (a + 1) b) ≤ b + 1
      have h1 := ih b
      have h2 := ih (b + 1)
      split
      · omega
      · split <;> omega
theorem row_put {F : Nat → Int32} {L : Nat → Nat → Nat} {a b lw : Nat} {v : Int32} (hw : lw ≤ 12) (hb : b ≤ lw) (hv : v = nI (L a b)) (h1 : ∀ p c, p < a → c ≤ lw → F (13 * p + c) = nI (L p c)) (h2 : ∀ c, c < b → F (13 * a + c) = nI (L a c)) :
    (∀ p c, p < a → c ≤ lw → upd F (13 * a + b) v (13 * p + c) = nI (L p c)) ∧ (∀ c, c < b + 1 → upd F (13 * a + b) v (13 * a + c) = nI (L a c)) := by
  refine ⟨fun p c hp hc => ?_, fun c hc => ?_⟩
  · rw [upd_ne (by omega)]; exact h1 p c hp hc
  · by_cases e : c = b
    · subst e; rw [upd_self]; exact hv
    · rw [upd_ne (by omega)]; exact h2 c (by omega)
abbrev tx9 (f : Nat → Nat → Int32) (v : Nat) : Nat → Int32 := fun j => f 3 (12 * v + j)
def lcsV (f : Nat → Nat → Int32) (ln : Nat → Nat) (v w : Nat) : Nat := lcs (tx9 f v) (tx9 f w) (ln v) (ln w)
theorem lcsV_le {f : Nat → Nat → Int32} {ln : Nat → Nat} {v w : Nat} (h : ln w ≤ 12) : lcsV f ln v w ≤ 12 := Nat.le_trans (lcs_le _ _ _ _) h
def y_Md_part : MethodName := ⟨"NameMergesModel", "part", "(III)Z"⟩
abbrev w_Md_part : List Cond := Cond.code y_Md_part prog_7_method_22_code 6 (Option.some Jvm.ClassFile.FieldType.boolean) :: gw
theorem d_Md_part_0 : decode prog_7_method_22_code 0 = .ok (.aload_n 0, 1) := by decide +kernel
theorem d_Md_part_1 : decode prog_7_method_22_code 1 = .ok (.aload_n 0, 1) := by decide +kernel
theorem d_Md_part_2 : decode prog_7_method_22_code 2 = .ok (.iload_n 1, 1) := by decide +kernel
theorem d_Md_part_3 : decode prog_7_method_22_code 3 = .ok (.invokevirtual 92, 3) := by decide +kernel
theorem d_Md_part_6 : decode prog_7_method_22_code 6 = .ok (.ifCond .eq 15, 3) := by decide +kernel
theorem d_Md_part_9 : decode prog_7_method_22_code 9 = .ok (.aload_n 0, 1) := by decide +kernel
theorem d_Md_part_10 : decode prog_7_method_22_code 10 = .ok (.iload_n 2, 1) := by decide +kernel
theorem d_Md_part_11 : decode prog_7_method_22_code 11 = .ok (.invokevirtual 92, 3) := by decide +kernel
theorem d_Md_part_14 : decode prog_7_method_22_code 14 = .ok (.ifCond .eq 7, 3) := by decide +kernel
theorem d_Md_part_17 : decode prog_7_method_22_code 17 = .ok (.iconst 1, 1) := by decide +kernel
theorem d_Md_part_18 : decode prog_7_method_22_code 18 = .ok (.goto 4, 3) := by decide +kernel
theorem d_Md_part_21 : decode prog_7_method_22_code 21 = .ok (.iconst 0, 1) := by decide +kernel
theorem d_Md_part_22 : decode prog_7_method_22_code 22 = .ok (.iload_n 3, 1) := by decide +kernel
theorem d_Md_part_23 : decode prog_7_method_22_code 23 = .ok (.invokestatic 96, 3) := by decide +kernel
theorem d_Md_part_26 : decode prog_7_method_22_code 26 = .ok (.iconst 1, 1) := by decide +kernel
theorem d_Md_part_27 : decode prog_7_method_22_code 27 = .ok (.invokevirtual 88, 3) := by decide +kernel
theorem d_Md_part_30 : decode prog_7_method_22_code 30 = .ok (.ifCond .ne 5, 3) := by decide +kernel
theorem d_Md_part_33 : decode prog_7_method_22_code 33 = .ok (.iconst 0, 1) := by decide +kernel
theorem d_Md_part_34 : decode prog_7_method_22_code 34 = .ok (.ireturn, 1) := by decide +kernel
theorem d_Md_part_35 : decode prog_7_method_22_code 35 = .ok (.iconst 0, 1) := by decide +kernel
theorem d_Md_part_36 : decode prog_7_method_22_code 36 = .ok (.istore 4, 2) := by decide +kernel
theorem d_Md_part_38 : decode prog_7_method_22_code 38 = .ok (.iload 4, 2) := by decide +kernel
theorem d_Md_part_40 : decode prog_7_method_22_code 40 = .ok (.aload_n 0, 1) := by decide +kernel
theorem d_Md_part_41 : decode prog_7_method_22_code 41 = .ok (.getfield 106, 3) := by decide +kernel
theorem d_Md_part_44 : decode prog_7_method_22_code 44 = .ok (.if_icmp .ge 97, 3) := by decide +kernel
theorem d_Md_part_47 : decode prog_7_method_22_code 47 = .ok (.aload_n 0, 1) := by decide +kernel
theorem d_Md_part_48 : decode prog_7_method_22_code 48 = .ok (.getfield 50, 3) := by decide +kernel
theorem d_Md_part_51 : decode prog_7_method_22_code 51 = .ok (.iload 4, 2) := by decide +kernel
theorem d_Md_part_53 : decode prog_7_method_22_code 53 = .ok (.iaload, 1) := by decide +kernel
theorem d_Md_part_54 : decode prog_7_method_22_code 54 = .ok (.iload_n 1, 1) := by decide +kernel
theorem d_Md_part_55 : decode prog_7_method_22_code 55 = .ok (.if_icmp .ne 14, 3) := by decide +kernel
theorem d_Md_part_58 : decode prog_7_method_22_code 58 = .ok (.aload_n 0, 1) := by decide +kernel
theorem d_Md_part_59 : decode prog_7_method_22_code 59 = .ok (.getfield 53, 3) := by decide +kernel
theorem d_Md_part_62 : decode prog_7_method_22_code 62 = .ok (.iload 4, 2) := by decide +kernel
theorem d_Md_part_64 : decode prog_7_method_22_code 64 = .ok (.iaload, 1) := by decide +kernel
theorem d_Md_part_65 : decode prog_7_method_22_code 65 = .ok (.iload_n 2, 1) := by decide +kernel
theorem d_Md_part_66 : decode prog_7_method_22_code 66 = .ok (.if_icmp .eq 25, 3) := by decide +kernel
theorem d_Md_part_69 : decode prog_7_method_22_code 69 = .ok (.aload_n 0, 1) := by decide +kernel
theorem d_Md_part_70 : decode prog_7_method_22_code 70 = .ok (.getfield 50, 3) := by decide +kernel
theorem d_Md_part_73 : decode prog_7_method_22_code 73 = .ok (.iload 4, 2) := by decide +kernel
theorem d_Md_part_75 : decode prog_7_method_22_code 75 = .ok (.iaload, 1) := by decide +kernel
theorem d_Md_part_76 : decode prog_7_method_22_code 76 = .ok (.iload_n 2, 1) := by decide +kernel
theorem d_Md_part_77 : decode prog_7_method_22_code 77 = .ok (.if_icmp .ne 18, 3) := by decide +kernel
theorem d_Md_part_80 : decode prog_7_method_22_code 80 = .ok (.aload_n 0, 1) := by decide +kernel
theorem d_Md_part_81 : decode prog_7_method_22_code 81 = .ok (.getfield 53, 3) := by decide +kernel
theorem d_Md_part_84 : decode prog_7_method_22_code 84 = .ok (.iload 4, 2) := by decide +kernel
theorem d_Md_part_86 : decode prog_7_method_22_code 86 = .ok (.iaload, 1) := by decide +kernel
theorem d_Md_part_87 : decode prog_7_method_22_code 87 = .ok (.iload_n 1, 1) := by decide +kernel
theorem d_Md_part_88 : decode prog_7_method_22_code 88 = .ok (.if_icmp .ne 7, 3) := by decide +kernel
theorem d_Md_part_91 : decode prog_7_method_22_code 91 = .ok (.iconst 1, 1) := by decide +kernel
theorem d_Md_part_92 : decode prog_7_method_22_code 92 = .ok (.goto 4, 3) := by decide +kernel
theorem d_Md_part_95 : decode prog_7_method_22_code 95 = .ok (.iconst 0, 1) := by decide +kernel
theorem d_Md_part_96 : decode prog_7_method_22_code 96 = .ok (.istore 5, 2) := by decide +kernel
theorem d_Md_part_98 : decode prog_7_method_22_code 98 = .ok (.iload 5, 2) := by decide +kernel
theorem d_Md_part_100 : decode prog_7_method_22_code 100 = .ok (.ifCond .eq 35, 3) := by decide +kernel
theorem d_Md_part_103 : decode prog_7_method_22_code 103 = .ok (.aload_n 0, 1) := by decide +kernel
theorem d_Md_part_104 : decode prog_7_method_22_code 104 = .ok (.getfield 59, 3) := by decide +kernel
theorem d_Md_part_107 : decode prog_7_method_22_code 107 = .ok (.iload 4, 2) := by decide +kernel
theorem d_Md_part_109 : decode prog_7_method_22_code 109 = .ok (.iaload, 1) := by decide +kernel
theorem d_Md_part_110 : decode prog_7_method_22_code 110 = .ok (.iconst (-1), 1) := by decide +kernel
theorem d_Md_part_111 : decode prog_7_method_22_code 111 = .ok (.if_icmp .ne 24, 3) := by decide +kernel
theorem d_Md_part_114 : decode prog_7_method_22_code 114 = .ok (.aload_n 0, 1) := by decide +kernel
theorem d_Md_part_115 : decode prog_7_method_22_code 115 = .ok (.getfield 56, 3) := by decide +kernel
theorem d_Md_part_118 : decode prog_7_method_22_code 118 = .ok (.iload 4, 2) := by decide +kernel
theorem d_Md_part_120 : decode prog_7_method_22_code 120 = .ok (.iaload, 1) := by decide +kernel
theorem d_Md_part_121 : decode prog_7_method_22_code 121 = .ok (.iload_n 3, 1) := by decide +kernel
theorem d_Md_part_122 : decode prog_7_method_22_code 122 = .ok (.if_icmp .ge 13, 3) := by decide +kernel
theorem d_Md_part_125 : decode prog_7_method_22_code 125 = .ok (.aload_n 0, 1) := by decide +kernel
theorem d_Md_part_126 : decode prog_7_method_22_code 126 = .ok (.getfield 59, 3) := by decide +kernel
theorem d_Md_part_129 : decode prog_7_method_22_code 129 = .ok (.iload 4, 2) := by decide +kernel
theorem d_Md_part_131 : decode prog_7_method_22_code 131 = .ok (.iload_n 3, 1) := by decide +kernel
theorem d_Md_part_132 : decode prog_7_method_22_code 132 = .ok (.iastore, 1) := by decide +kernel
theorem d_Md_part_133 : decode prog_7_method_22_code 133 = .ok (.iconst 1, 1) := by decide +kernel
theorem d_Md_part_134 : decode prog_7_method_22_code 134 = .ok (.ireturn, 1) := by decide +kernel
theorem d_Md_part_135 : decode prog_7_method_22_code 135 = .ok (.iinc 4 1, 3) := by decide +kernel
theorem d_Md_part_138 : decode prog_7_method_22_code 138 = .ok (.goto (-100), 3) := by decide +kernel
theorem d_Md_part_141 : decode prog_7_method_22_code 141 = .ok (.iconst 0, 1) := by decide +kernel
theorem d_Md_part_142 : decode prog_7_method_22_code 142 = .ok (.ireturn, 1) := by decide +kernel
set_option maxHeartbeats 4000000 in
set_option maxRecDepth 100000 in
theorem c_Md_part (l : Launch) (D : va_G) (cs : Nat → ClassId) (N0 : Nat) (H : Heap) (x : Nat) (g : Nat → Nat) (i : Nat → Int32) (f : Nat → Nat → Int32) (qa qb dy : Int32) (hsep : md_sep N0 x g) (hI : md_I D cs H x g i f) (n : Nat) (hn : i 2 = nI n) (hn24 : n ≤ 24) (mg : Nat) (hmg : i 3 = nI mg) (hmg60 : mg ≤ 60) (mo mt : Nat → Nat) (hone : ∀ k, k < mg → f 13 k = nI (mo k) ∧ mo k < 24) (hoth : ∀ k, k < mg → f 14 k = nI (mt k) ∧ mt k < 24) : Met l y_Md_part w_Md_part ({ frames := 1, cells := 0, slots := 0, locals := 23 }) (hPre D cs N0 [.ref x, .int qa, .int qb, .int dy] H) (hQi (fun r H' => if goB (isN n qa && isN n qb) (isD dy) true = true then (if fstFrom (partP f qa qb dy) 0 mg = -1 then (md_I D cs H' x g (upd i 0 (goV (isN n qa && isN n qb) (isD dy) true)) f ∧ r = 0) else (md_I D cs H' x g (upd i 0 (goV (isN n qa && isN n qb) (isD dy) true)) (updA f 16 (tn (fstFrom (partP f qa qb dy) 0 mg)) dy) ∧ r = 1)) else (md_I D cs H' x g (upd i 0 (goV (isN n qa && isN n qb) (isD dy) true)) f ∧ r = 0)) (md_A x g)) 0 0 (md_A x g) := by
  refine Met.ofW (cc := prog_7_method_22_code) (maxL := 6) (ret := (Option.some Jvm.ClassFile.FieldType.boolean)) (by decide) rfl ?_
  intro p e s m args below meth c s₁ B hml hv
  obtain ⟨rfl, rfl, hB⟩ := hv
  have hx := B.exec
  have hb := B.bytes
  have hr := B.returns
  have hts := atoms_spec (ws := w_Md_part) B.pre
  have htg : ∀ w ∈ gw, w.before _ s = true := fun w h => hts w (List.mem_cons_of_mem _ h)
  have hown : s.vm.findClass "NameMergesModel" = some m.cls := findClass_of_methodNamed B.named
  have hlocks := B.notSynchronized
  have hK := hB.1
  have hS : va_S (md_A x g) s.heap s.heap [] := va_S.rf
  obtain ⟨H, hH⟩ : ∃ z : Heap, z = s.heap := ⟨_, rfl⟩
  rw [← hH] at hI
  have hS : va_S (md_A x g) s.heap H [] := by rw [hH]; exact va_S.rf
  have hl := lv_entry ([.ref x, .int qa, .int qb, .int dy]) (n := 6) (Nat.le_of_ble_eq_true rfl)
  rw [lg_entry_eq, ← hH]
  generalize (lg_sl ([.ref x, .int qa, .int qb, .int dy]) ++ List.replicate (6 - (lg_sl ([.ref x, .int qa, .int qb, .int dy])).length) Slot.unset).toArray = ls at hl ⊢
  have hl : lv_has ls 6 [(0, .ref x), (1, .int qa), (2, .int qb), (3, .int dy)] := hl
  refine lv_aload_n hx hb d_Md_part_0 rfl (lv_at hl 0 rfl) ?_
  refine lv_aload_n hx hb d_Md_part_1 rfl (lv_at hl 0 rfl) ?_
  refine lv_iload_n hx hb d_Md_part_2 rfl (lv_at hl 1 rfl) ?_
  refine h_calli (va_runV (As := [.int qa]) (rest := [.ref x]) ⟨hx, hb, hml, hown, htg⟩ (c_Md_isName l D cs N0 H x g i f qa hsep hI n hn) (cwV 1 htg (gw_V (gw_mem (i := 1108) (by decide +kernel) rfl) (gw_mem (i := 1110) (by decide +kernel) rfl) (gw_mem (i := 19) (by decide +kernel) rfl) (gw_mem (i := 38) (by decide +kernel) rfl) (gw_mem (i := 1111) (by decide +kernel) rfl)) rfl rfl rfl (by decide +kernel) ⟨Nat.le_of_ble_eq_true rfl, Nat.le_of_ble_eq_true rfl⟩) ⟨hPre.blind, hx_recv hK (ci := 0) rfl hI.1, hPre.at hB hS hsep.A⟩ rfl rfl hl.1 rfl (lv_room (Nat.le_of_ble_eq_true rfl)) d_Md_part_3 ⟨Nat.zero_le _, Nat.zero_le _⟩) hS (fun _ h => h) (fun r3 H locs hp hz hk hS => ?_)
  obtain ⟨hI, er3⟩ := hp
  refine lv_eqi (y := (bI (isN n qa))) er3 ?_
  refine lv_if_eq (x := (bI (isN n qa))) (tgt := 21) hx hb d_Md_part_6 (by decide) (fun c6 => ?_) (fun c6 => ?_)
  · skip
    replace c6 : (isN n qa) = false := bI_0 c6
    refine lv_iconst (v := 0) hx hb d_Md_part_21 (by decide) ?_
    refine lv_iload_n hx hb d_Md_part_22 rfl (lv_at hl 3 rfl) ?_
    refine h_calli (va_runS (As := [.int dy]) (rest := [.int 0, .ref x]) ⟨hx, hb, hml, hown, htg⟩ (c_Md_isDay l D cs N0 H x g i f dy hsep hI) (cwS 1 htg (gw_S (gw_mem (i := 1112) (by decide +kernel) rfl) (gw_mem (i := 1113) (by decide +kernel) rfl) (gw_mem (i := 38) (by decide +kernel) rfl) (gw_mem (i := 1114) (by decide +kernel) rfl)) rfl rfl rfl (by decide +kernel) ⟨Nat.le_of_ble_eq_true rfl, Nat.le_of_ble_eq_true rfl⟩) ⟨hPre.blind, hPre.at hB hS hsep.A⟩ rfl rfl hl.1 rfl (lv_room (Nat.le_of_ble_eq_true rfl)) d_Md_part_23 ⟨Nat.zero_le _, Nat.zero_le _⟩) hS (fun _ h => h) (fun r23 H locs hp hz hk hS => ?_)
    obtain ⟨hI, er23⟩ := hp
    refine lv_eqi (y := (bI (isD dy))) er23 ?_
    refine lv_iconst (v := 1) hx hb d_Md_part_26 (by decide) ?_
    refine h_calli (va_runV (As := [.int 0, .int (bI (isD dy)), .int 1]) (rest := []) ⟨hx, hb, hml, hown, htg⟩ (c_Md_goes l D cs N0 H x g i f false (isD dy) true hsep hI) (cwV 3 htg (gw_V (gw_mem (i := 1092) (by decide +kernel) rfl) (gw_mem (i := 1094) (by decide +kernel) rfl) (gw_mem (i := 18) (by decide +kernel) rfl) (gw_mem (i := 38) (by decide +kernel) rfl) (gw_mem (i := 1095) (by decide +kernel) rfl)) rfl rfl rfl (by decide +kernel) ⟨Nat.le_of_ble_eq_true rfl, Nat.le_of_ble_eq_true rfl⟩) ⟨hPre.blind, hx_recv hK (ci := 0) rfl hI.1, hPre.at hB hS hsep.A⟩ rfl rfl hl.1 rfl (lv_room (Nat.le_of_ble_eq_true rfl)) d_Md_part_27 ⟨Nat.zero_le _, Nat.zero_le _⟩) hS (fun _ h => h) (fun r27 H locs hp hz hk hS => ?_)
    obtain ⟨hI, er27⟩ := hp
    refine lv_eqi (y := 0) (er27.trans (by simp [goB, bI])) ?_
    refine lv_if_ne (x := 0) (tgt := 35) hx hb d_Md_part_30 (by decide) (fun c30 => ?_) (fun c30 => ?_)
    · exact absurd c30 (by decide)
    · skip
      refine lv_iconst (v := 0) hx hb d_Md_part_33 (by decide) ?_
      exact W.zret (v := 0) hx hb hr (by decide) (fun t ht hW => ⟨⟨0, H, rfl, by dsimp only; have e0 : (isN n qa && isN n qb) = false := (by first | (simp [c6]; done) | (simp [c6]; omega) | omega | simp_all); rw [e0]; rw [if_neg (show ¬ goB false (isD dy) true = true by simp [goB])]; exact ⟨hI, rfl⟩, ht⟩, hS.F ht⟩) hS.2.2 d_Md_part_34
  · skip
    replace c6 : (isN n qa) = true := bI_1 c6
    refine lv_aload_n hx hb d_Md_part_9 rfl (lv_at hl 0 rfl) ?_
    refine lv_iload_n hx hb d_Md_part_10 rfl (lv_at hl 2 rfl) ?_
    refine h_calli (va_runV (As := [.int qb]) (rest := [.ref x]) ⟨hx, hb, hml, hown, htg⟩ (c_Md_isName l D cs N0 H x g i f qb hsep hI n hn) (cwV 1 htg (gw_V (gw_mem (i := 1108) (by decide +kernel) rfl) (gw_mem (i := 1110) (by decide +kernel) rfl) (gw_mem (i := 19) (by decide +kernel) rfl) (gw_mem (i := 38) (by decide +kernel) rfl) (gw_mem (i := 1111) (by decide +kernel) rfl)) rfl rfl rfl (by decide +kernel) ⟨Nat.le_of_ble_eq_true rfl, Nat.le_of_ble_eq_true rfl⟩) ⟨hPre.blind, hx_recv hK (ci := 0) rfl hI.1, hPre.at hB hS hsep.A⟩ rfl rfl hl.1 rfl (lv_room (Nat.le_of_ble_eq_true rfl)) d_Md_part_11 ⟨Nat.zero_le _, Nat.zero_le _⟩) hS (fun _ h => h) (fun r11 H locs hp hz hk hS => ?_)
    obtain ⟨hI, er11⟩ := hp
    refine lv_eqi (y := (bI (isN n qb))) er11 ?_
    refine lv_if_eq (x := (bI (isN n qb))) (tgt := 21) hx hb d_Md_part_14 (by decide) (fun c14 => ?_) (fun c14 => ?_)
    · skip
      replace c14 : (isN n qb) = false := bI_0 c14
      refine lv_iconst (v := 0) hx hb d_Md_part_21 (by decide) ?_
      refine lv_iload_n hx hb d_Md_part_22 rfl (lv_at hl 3 rfl) ?_
      refine h_calli (va_runS (As := [.int dy]) (rest := [.int 0, .ref x]) ⟨hx, hb, hml, hown, htg⟩ (c_Md_isDay l D cs N0 H x g i f dy hsep hI) (cwS 1 htg (gw_S (gw_mem (i := 1112) (by decide +kernel) rfl) (gw_mem (i := 1113) (by decide +kernel) rfl) (gw_mem (i := 38) (by decide +kernel) rfl) (gw_mem (i := 1114) (by decide +kernel) rfl)) rfl rfl rfl (by decide +kernel) ⟨Nat.le_of_ble_eq_true rfl, Nat.le_of_ble_eq_true rfl⟩) ⟨hPre.blind, hPre.at hB hS hsep.A⟩ rfl rfl hl.1 rfl (lv_room (Nat.le_of_ble_eq_true rfl)) d_Md_part_23 ⟨Nat.zero_le _, Nat.zero_le _⟩) hS (fun _ h => h) (fun r23 H locs hp hz hk hS => ?_)
      obtain ⟨hI, er23⟩ := hp
      refine lv_eqi (y := (bI (isD dy))) er23 ?_
      refine lv_iconst (v := 1) hx hb d_Md_part_26 (by decide) ?_
      refine h_calli (va_runV (As := [.int 0, .int (bI (isD dy)), .int 1]) (rest := []) ⟨hx, hb, hml, hown, htg⟩ (c_Md_goes l D cs N0 H x g i f false (isD dy) true hsep hI) (cwV 3 htg (gw_V (gw_mem (i := 1092) (by decide +kernel) rfl) (gw_mem (i := 1094) (by decide +kernel) rfl) (gw_mem (i := 18) (by decide +kernel) rfl) (gw_mem (i := 38) (by decide +kernel) rfl) (gw_mem (i := 1095) (by decide +kernel) rfl)) rfl rfl rfl (by decide +kernel) ⟨Nat.le_of_ble_eq_true rfl, Nat.le_of_ble_eq_true rfl⟩) ⟨hPre.blind, hx_recv hK (ci := 0) rfl hI.1, hPre.at hB hS hsep.A⟩ rfl rfl hl.1 rfl (lv_room (Nat.le_of_ble_eq_true rfl)) d_Md_part_27 ⟨Nat.zero_le _, Nat.zero_le _⟩) hS (fun _ h => h) (fun r27 H locs hp hz hk hS => ?_)
      obtain ⟨hI, er27⟩ := hp
      refine lv_eqi (y := 0) (er27.trans (by simp [goB, bI])) ?_
      refine lv_if_ne (x := 0) (tgt := 35) hx hb d_Md_part_30 (by decide) (fun c30 => ?_) (fun c30 => ?_)
      · exact absurd c30 (by decide)
      · skip
        refine lv_iconst (v := 0) hx hb d_Md_part_33 (by decide) ?_
        exact W.zret (v := 0) hx hb hr (by decide) (fun t ht hW => ⟨⟨0, H, rfl, by dsimp only; have e0 : (isN n qa && isN n qb) = false := (by first | (simp [c6, c14]; done) | (simp [c6, c14]; omega) | omega | simp_all); rw [e0]; rw [if_neg (show ¬ goB false (isD dy) true = true by simp [goB])]; exact ⟨hI, rfl⟩, ht⟩, hS.F ht⟩) hS.2.2 d_Md_part_34
    · skip
      replace c14 : (isN n qb) = true := bI_1 c14
      refine lv_iconst (v := 1) hx hb d_Md_part_17 (by decide) ?_
      refine lv_goto (tgt := 22) hx hb d_Md_part_18 (by decide) ?_
      refine lv_iload_n hx hb d_Md_part_22 rfl (lv_at hl 3 rfl) ?_
      refine h_calli (va_runS (As := [.int dy]) (rest := [.int 1, .ref x]) ⟨hx, hb, hml, hown, htg⟩ (c_Md_isDay l D cs N0 H x g i f dy hsep hI) (cwS 1 htg (gw_S (gw_mem (i := 1112) (by decide +kernel) rfl) (gw_mem (i := 1113) (by decide +kernel) rfl) (gw_mem (i := 38) (by decide +kernel) rfl) (gw_mem (i := 1114) (by decide +kernel) rfl)) rfl rfl rfl (by decide +kernel) ⟨Nat.le_of_ble_eq_true rfl, Nat.le_of_ble_eq_true rfl⟩) ⟨hPre.blind, hPre.at hB hS hsep.A⟩ rfl rfl hl.1 rfl (lv_room (Nat.le_of_ble_eq_true rfl)) d_Md_part_23 ⟨Nat.zero_le _, Nat.zero_le _⟩) hS (fun _ h => h) (fun r23 H locs hp hz hk hS => ?_)
      obtain ⟨hI, er23⟩ := hp
      refine lv_eqi (y := (bI (isD dy))) er23 ?_
      refine lv_iconst (v := 1) hx hb d_Md_part_26 (by decide) ?_
      refine h_calli (va_runV (As := [.int 1, .int (bI (isD dy)), .int 1]) (rest := []) ⟨hx, hb, hml, hown, htg⟩ (c_Md_goes l D cs N0 H x g i f true (isD dy) true hsep hI) (cwV 3 htg (gw_V (gw_mem (i := 1092) (by decide +kernel) rfl) (gw_mem (i := 1094) (by decide +kernel) rfl) (gw_mem (i := 18) (by decide +kernel) rfl) (gw_mem (i := 38) (by decide +kernel) rfl) (gw_mem (i := 1095) (by decide +kernel) rfl)) rfl rfl rfl (by decide +kernel) ⟨Nat.le_of_ble_eq_true rfl, Nat.le_of_ble_eq_true rfl⟩) ⟨hPre.blind, hx_recv hK (ci := 0) rfl hI.1, hPre.at hB hS hsep.A⟩ rfl rfl hl.1 rfl (lv_room (Nat.le_of_ble_eq_true rfl)) d_Md_part_27 ⟨Nat.zero_le _, Nat.zero_le _⟩) hS (fun _ h => h) (fun r27 H locs hp hz hk hS => ?_)
      obtain ⟨hI, er27⟩ := hp
      refine lv_eqi (y := (bI (goB true (isD dy) true))) er27 ?_
      refine lv_if_ne (x := (bI (goB true (isD dy) true))) (tgt := 35) hx hb d_Md_part_30 (by decide) (fun c30 => ?_) (fun c30 => ?_)
      · skip
        replace c30 : (goB true (isD dy) true) = true := bI_1 c30
        refine lv_iconst (v := 0) hx hb d_Md_part_35 (by decide) ?_
        refine lv_istore (lv' := [(4, .int 0), (0, .ref x), (1, .int qa), (2, .int qb), (3, .int dy)]) hx hb d_Md_part_36 hl (by decide) rfl (fun ls hl => ?_)
        have loop38 : ∀ (fuel : Nat) (k : Nat), mg - k < fuel → (k ≤ mg) → (fstFrom (partP f qa qb dy) 0 mg = fstFrom (partP f qa qb dy) k (mg - k)) → ∀ (locs : List Loc), va_S (md_A x g) s.heap H locs → ∀ (ls : Array Slot), lv_has ls 6 [(0, .ref x), (1, .int qa), (2, .int qb), (3, .int dy), (4, .int (nI k))] → W p l e (headSpec w_Md_part ({ frames := 1, cells := 0, slots := 0, locals := 23 })).room s m ([.ref x, .int qa, .int qb, .int dy] : List Value).toArray below meth c H locs 0 0 (MQ below (hQi (fun r H' => if goB (isN n qa && isN n qb) (isD dy) true = true then (if fstFrom (partP f qa qb dy) 0 mg = -1 then (md_I D cs H' x g (upd i 0 (goV (isN n qa && isN n qb) (isD dy) true)) f ∧ r = 0) else (md_I D cs H' x g (upd i 0 (goV (isN n qa && isN n qb) (isD dy) true)) (updA f 16 (tn (fstFrom (partP f qa qb dy) 0 mg)) dy) ∧ r = 1)) else (md_I D cs H' x g (upd i 0 (goV (isN n qa && isN n qb) (isD dy) true)) f ∧ r = 0)) (md_A x g)) ([.ref x, .int qa, .int qb, .int dy] : List Value).toArray s 0 0 (md_A x g)) (F0 m 38 ls []) := by
          intro fuel38
          induction fuel38 with
          | zero => intro k hn; exact absurd hn (Nat.not_lt_zero _)
          | succ fuel38 ih38 =>
            intro k hn38 hk hf9 locs hS ls hl
            refine lv_iload hx hb d_Md_part_38 (lv_at hl 4 rfl) ?_
            refine lv_aload_n hx hb d_Md_part_40 rfl (lv_at hl 0 rfl) ?_
            refine hx_get (v := .int (i 3)) hx hb htg iMd hown hK hI.1 rfl 16 (by decide) (htg _ (gw_mem (i := 1014) (by decide +kernel) rfl)) (fun _ h9 => h9) rfl d_Md_part_41 ?_
            refine lv_eqi (y := (nI mg)) hmg ?_
            refine lv_icmp_ge (x := (nI k)) (y := (nI mg)) (tgt := 141) hx hb d_Md_part_44 (by decide) (fun c44 => ?_) (fun c44 => ?_)
            · skip
              replace c44 : mg ≤ k := (nI_leI (a := mg) (b := k) (by omega) (by omega)).mp c44
              refine lv_iconst (v := 0) hx hb d_Md_part_141 (by decide) ?_
              exact W.zret (v := 0) hx hb hr (by decide) (fun t ht hW => ⟨⟨0, H, rfl, by dsimp only; have e0 : (isN n qa && isN n qb) = true := (by first | (simp [c6, c14, c30, c44]; done) | (simp [c6, c14, c30, c44]; omega) | omega | simp_all); rw [e0]; rw [if_pos c30]; exact (by have e9 := hf9.trans (fst_end (by omega)); rw [if_pos e9]; exact ⟨hI, rfl⟩), ht⟩, hS.F ht⟩) hS.2.2 d_Md_part_142
            · skip
              replace c44 : ¬ (mg ≤ k) := fun z9 => c44 ((nI_leI (a := mg) (b := k) (by omega) (by omega)).mpr z9)
              refine lv_aload_n hx hb d_Md_part_47 rfl (lv_at hl 0 rfl) ?_
              refine hx_get (v := .ref (g 13)) hx hb htg iMd hown hK hI.1 rfl 17 (by decide) (htg _ (gw_mem (i := 1015) (by decide +kernel) rfl)) (fun _ h9 => h9) rfl d_Md_part_48 ?_
              refine lv_iload hx hb d_Md_part_51 (lv_at hl 4 rfl) ?_
              refine hx_iald hx hb hK 0 (hI.2 13 (by decide)) rfl (show vp_in (nI k) 60 from vp_in_nI (n := k) (by omega) (by decide)) d_Md_part_53 ?_
              refine lv_eqi (y := (f 13 k)) (show f 13 (nI k).toNatClampNeg = _ by rw [nI_clamp (by omega)]) ?_
              refine lv_iload_n hx hb d_Md_part_54 rfl (lv_at hl 1 rfl) ?_
              refine lv_icmp_ne (x := (f 13 k)) (y := qa) (tgt := 69) hx hb d_Md_part_55 (by decide) (fun c55 => ?_) (fun c55 => ?_)
              · skip
                refine lv_aload_n hx hb d_Md_part_69 rfl (lv_at hl 0 rfl) ?_
                refine hx_get (v := .ref (g 13)) hx hb htg iMd hown hK hI.1 rfl 17 (by decide) (htg _ (gw_mem (i := 1015) (by decide +kernel) rfl)) (fun _ h9 => h9) rfl d_Md_part_70 ?_
                refine lv_iload hx hb d_Md_part_73 (lv_at hl 4 rfl) ?_
                refine hx_iald hx hb hK 0 (hI.2 13 (by decide)) rfl (show vp_in (nI k) 60 from vp_in_nI (n := k) (by omega) (by decide)) d_Md_part_75 ?_
                refine lv_eqi (y := (f 13 k)) (show f 13 (nI k).toNatClampNeg = _ by rw [nI_clamp (by omega)]) ?_
                refine lv_iload_n hx hb d_Md_part_76 rfl (lv_at hl 2 rfl) ?_
                refine lv_icmp_ne (x := (f 13 k)) (y := qb) (tgt := 95) hx hb d_Md_part_77 (by decide) (fun c77 => ?_) (fun c77 => ?_)
                · skip
                  refine lv_iconst (v := 0) hx hb d_Md_part_95 (by decide) ?_
                  refine lv_istore (lv' := [(5, .int 0), (0, .ref x), (1, .int qa), (2, .int qb), (3, .int dy), (4, .int (nI k))]) hx hb d_Md_part_96 hl (by decide) rfl (fun ls hl => ?_)
                  refine lv_iload hx hb d_Md_part_98 (lv_at hl 0 rfl) ?_
                  refine lv_if_eq (x := 0) (tgt := 135) hx hb d_Md_part_100 (by decide) (fun c100 => ?_) (fun c100 => ?_)
                  · skip
                    refine lv_iinc (v := (nI (k + 1))) (lv' := [(4, .int (nI (k + 1))), (5, .int 0), (0, .ref x), (1, .int qa), (2, .int qb), (3, .int dy)]) hx hb d_Md_part_135 hl (k := 5) rfl (nI_1 k) (by decide) rfl (fun ls hl => ?_)
                    refine lv_goto (tgt := 38) hx hb d_Md_part_138 (by decide) ?_
                    exact ih38  (k + 1) (by omega) (by omega) (hf9.trans (fst_miss (by omega) (by unfold partP; simp only [decide_eq_false c55, decide_eq_false c77]; simp))) _ hS ls (lv_sub hl [2, 3, 4, 5, 0] rfl)
                  · exact absurd c100 (by decide)
                · skip
                  refine lv_aload_n hx hb d_Md_part_80 rfl (lv_at hl 0 rfl) ?_
                  refine hx_get (v := .ref (g 14)) hx hb htg iMd hown hK hI.1 rfl 18 (by decide) (htg _ (gw_mem (i := 1016) (by decide +kernel) rfl)) (fun _ h9 => h9) rfl d_Md_part_81 ?_
                  refine lv_iload hx hb d_Md_part_84 (lv_at hl 4 rfl) ?_
                  refine hx_iald hx hb hK 0 (hI.2 14 (by decide)) rfl (show vp_in (nI k) 60 from vp_in_nI (n := k) (by omega) (by decide)) d_Md_part_86 ?_
                  refine lv_eqi (y := (f 14 k)) (show f 14 (nI k).toNatClampNeg = _ by rw [nI_clamp (by omega)]) ?_
                  refine lv_iload_n hx hb d_Md_part_87 rfl (lv_at hl 1 rfl) ?_
                  refine lv_icmp_ne (x := (f 14 k)) (y := qa) (tgt := 95) hx hb d_Md_part_88 (by decide) (fun c88 => ?_) (fun c88 => ?_)
                  · skip
                    refine lv_iconst (v := 0) hx hb d_Md_part_95 (by decide) ?_
                    refine lv_istore (lv' := [(5, .int 0), (0, .ref x), (1, .int qa), (2, .int qb), (3, .int dy), (4, .int (nI k))]) hx hb d_Md_part_96 hl (by decide) rfl (fun ls hl => ?_)
                    refine lv_iload hx hb d_Md_part_98 (lv_at hl 0 rfl) ?_
                    refine lv_if_eq (x := 0) (tgt := 135) hx hb d_Md_part_100 (by decide) (fun c100 => ?_) (fun c100 => ?_)
                    · skip
                      refine lv_iinc (v := (nI (k + 1))) (lv' := [(4, .int (nI (k + 1))), (5, .int 0), (0, .ref x), (1, .int qa), (2, .int qb), (3, .int dy)]) hx hb d_Md_part_135 hl (k := 5) rfl (nI_1 k) (by decide) rfl (fun ls hl => ?_)
                      refine lv_goto (tgt := 38) hx hb d_Md_part_138 (by decide) ?_
                      exact ih38  (k + 1) (by omega) (by omega) (hf9.trans (fst_miss (by omega) (by unfold partP; simp only [decide_eq_false c55, decide_eq_true c77, decide_eq_false c88]; simp))) _ hS ls (lv_sub hl [2, 3, 4, 5, 0] rfl)
                    · exact absurd c100 (by decide)
                  · skip
                    refine lv_iconst (v := 1) hx hb d_Md_part_91 (by decide) ?_
                    refine lv_goto (tgt := 96) hx hb d_Md_part_92 (by decide) ?_
                    refine lv_istore (lv' := [(5, .int 1), (0, .ref x), (1, .int qa), (2, .int qb), (3, .int dy), (4, .int (nI k))]) hx hb d_Md_part_96 hl (by decide) rfl (fun ls hl => ?_)
                    refine lv_iload hx hb d_Md_part_98 (lv_at hl 0 rfl) ?_
                    refine lv_if_eq (x := 1) (tgt := 135) hx hb d_Md_part_100 (by decide) (fun c100 => ?_) (fun c100 => ?_)
                    · exact absurd c100 (by decide)
                    · skip
                      refine lv_aload_n hx hb d_Md_part_103 rfl (lv_at hl 1 rfl) ?_
                      refine hx_get (v := .ref (g 16)) hx hb htg iMd hown hK hI.1 rfl 20 (by decide) (htg _ (gw_mem (i := 1018) (by decide +kernel) rfl)) (fun _ h9 => h9) rfl d_Md_part_104 ?_
                      refine lv_iload hx hb d_Md_part_107 (lv_at hl 5 rfl) ?_
                      refine hx_iald hx hb hK 0 (hI.2 16 (by decide)) rfl (show vp_in (nI k) 60 from vp_in_nI (n := k) (by omega) (by decide)) d_Md_part_109 ?_
                      refine lv_eqi (y := (f 16 k)) (show f 16 (nI k).toNatClampNeg = _ by rw [nI_clamp (by omega)]) ?_
                      refine lv_iconst (v := (-1)) hx hb d_Md_part_110 (by decide) ?_
                      refine lv_icmp_ne (x := (f 16 k)) (y := (-1)) (tgt := 135) hx hb d_Md_part_111 (by decide) (fun c111 => ?_) (fun c111 => ?_)
                      · skip
                        refine lv_iinc (v := (nI (k + 1))) (lv' := [(4, .int (nI (k + 1))), (5, .int 1), (0, .ref x), (1, .int qa), (2, .int qb), (3, .int dy)]) hx hb d_Md_part_135 hl (k := 5) rfl (nI_1 k) (by decide) rfl (fun ls hl => ?_)
                        refine lv_goto (tgt := 38) hx hb d_Md_part_138 (by decide) ?_
                        exact ih38  (k + 1) (by omega) (by omega) (hf9.trans (fst_miss (by omega) (by unfold partP; simp only [decide_eq_false c55, decide_eq_true c77, decide_eq_true c88, decide_eq_false c111]; simp))) _ hS ls (lv_sub hl [2, 3, 4, 5, 0] rfl)
                      · skip
                        refine lv_aload_n hx hb d_Md_part_114 rfl (lv_at hl 1 rfl) ?_
                        refine hx_get (v := .ref (g 15)) hx hb htg iMd hown hK hI.1 rfl 19 (by decide) (htg _ (gw_mem (i := 1017) (by decide +kernel) rfl)) (fun _ h9 => h9) rfl d_Md_part_115 ?_
                        refine lv_iload hx hb d_Md_part_118 (lv_at hl 5 rfl) ?_
                        refine hx_iald hx hb hK 0 (hI.2 15 (by decide)) rfl (show vp_in (nI k) 60 from vp_in_nI (n := k) (by omega) (by decide)) d_Md_part_120 ?_
                        refine lv_eqi (y := (f 15 k)) (show f 15 (nI k).toNatClampNeg = _ by rw [nI_clamp (by omega)]) ?_
                        refine lv_iload_n hx hb d_Md_part_121 rfl (lv_at hl 4 rfl) ?_
                        refine lv_icmp_ge (x := (f 15 k)) (y := dy) (tgt := 135) hx hb d_Md_part_122 (by decide) (fun c122 => ?_) (fun c122 => ?_)
                        · skip
                          refine lv_iinc (v := (nI (k + 1))) (lv' := [(4, .int (nI (k + 1))), (5, .int 1), (0, .ref x), (1, .int qa), (2, .int qb), (3, .int dy)]) hx hb d_Md_part_135 hl (k := 5) rfl (nI_1 k) (by decide) rfl (fun ls hl => ?_)
                          refine lv_goto (tgt := 38) hx hb d_Md_part_138 (by decide) ?_
                          exact ih38  (k + 1) (by omega) (by omega) (hf9.trans (fst_miss (by omega) (by unfold partP; simp only [decide_eq_false c55, decide_eq_true c77, decide_eq_true c88, decide_eq_true c111, decide_eq_true c122]; simp))) _ hS ls (lv_sub hl [2, 3, 4, 5, 0] rfl)
                        · skip
                          refine lv_aload_n hx hb d_Md_part_125 rfl (lv_at hl 1 rfl) ?_
                          refine hx_get (v := .ref (g 16)) hx hb htg iMd hown hK hI.1 rfl 20 (by decide) (htg _ (gw_mem (i := 1018) (by decide +kernel) rfl)) (fun _ h9 => h9) rfl d_Md_part_126 ?_
                          refine lv_iload hx hb d_Md_part_129 (lv_at hl 5 rfl) ?_
                          refine lv_iload_n hx hb d_Md_part_131 rfl (lv_at hl 4 rfl) ?_
                          refine hx_iast hx hb hK hS (Or.inr ⟨16, by decide, rfl⟩) 0 (hI.2 16 (by decide)) rfl (show vp_in (nI k) 60 from vp_in_nI (n := k) (by omega) (by decide)) d_Md_part_132 (fun H locs hat hz ho hS => ?_)
                          replace hI : md_I D cs H x g (upd i 0 (goV true (isD dy) true)) (updA f 16 k (dy)) := md_I.puta hI hsep (by decide) (by rw [show ((nI k) : Int32).toNatClampNeg = k from nI_clamp (n := k) (by omega)] at hat; exact hat) ho
                          refine lv_iconst (v := 1) hx hb d_Md_part_133 (by decide) ?_
                          exact W.zret (v := 1) hx hb hr (by decide) (fun t ht hW => ⟨⟨1, H, rfl, by dsimp only; have e0 : (isN n qa && isN n qb) = true := (by first | (simp [c6, c14, c30, c44, c55, c77, c88, c111, c122]; done) | (simp [c6, c14, c30, c44, c55, c77, c88, c111, c122]; omega) | omega | simp_all); rw [e0]; rw [if_pos c30]; exact (by have e9 := hf9.trans (fst_hit (by omega) (by unfold partP; simp only [decide_eq_false c55, decide_eq_true c77, decide_eq_true c88, decide_eq_true c111, decide_eq_false c122]; simp)); rw [if_neg (by rw [e9]; exact fun z9 => absurd (nI_pos' (n := k) (by omega)) (by rw [z9]; decide)), e9, show tn (nI k) = k from nI_clamp (by omega)]; exact ⟨hI, rfl⟩), ht⟩, hS.F ht⟩) hS.2.2 d_Md_part_134
              · skip
                refine lv_aload_n hx hb d_Md_part_58 rfl (lv_at hl 0 rfl) ?_
                refine hx_get (v := .ref (g 14)) hx hb htg iMd hown hK hI.1 rfl 18 (by decide) (htg _ (gw_mem (i := 1016) (by decide +kernel) rfl)) (fun _ h9 => h9) rfl d_Md_part_59 ?_
                refine lv_iload hx hb d_Md_part_62 (lv_at hl 4 rfl) ?_
                refine hx_iald hx hb hK 0 (hI.2 14 (by decide)) rfl (show vp_in (nI k) 60 from vp_in_nI (n := k) (by omega) (by decide)) d_Md_part_64 ?_
                refine lv_eqi (y := (f 14 k)) (show f 14 (nI k).toNatClampNeg = _ by rw [nI_clamp (by omega)]) ?_
                refine lv_iload_n hx hb d_Md_part_65 rfl (lv_at hl 2 rfl) ?_
                refine lv_icmp_eq (x := (f 14 k)) (y := qb) (tgt := 91) hx hb d_Md_part_66 (by decide) (fun c66 => ?_) (fun c66 => ?_)
                · skip
                  refine lv_iconst (v := 1) hx hb d_Md_part_91 (by decide) ?_
                  refine lv_goto (tgt := 96) hx hb d_Md_part_92 (by decide) ?_
                  refine lv_istore (lv' := [(5, .int 1), (0, .ref x), (1, .int qa), (2, .int qb), (3, .int dy), (4, .int (nI k))]) hx hb d_Md_part_96 hl (by decide) rfl (fun ls hl => ?_)
                  refine lv_iload hx hb d_Md_part_98 (lv_at hl 0 rfl) ?_
                  refine lv_if_eq (x := 1) (tgt := 135) hx hb d_Md_part_100 (by decide) (fun c100 => ?_) (fun c100 => ?_)
                  · exact absurd c100 (by decide)
                  · skip
                    refine lv_aload_n hx hb d_Md_part_103 rfl (lv_at hl 1 rfl) ?_
                    refine hx_get (v := .ref (g 16)) hx hb htg iMd hown hK hI.1 rfl 20 (by decide) (htg _ (gw_mem (i := 1018) (by decide +kernel) rfl)) (fun _ h9 => h9) rfl d_Md_part_104 ?_
                    refine lv_iload hx hb d_Md_part_107 (lv_at hl 5 rfl) ?_
                    refine hx_iald hx hb hK 0 (hI.2 16 (by decide)) rfl (show vp_in (nI k) 60 from vp_in_nI (n := k) (by omega) (by decide)) d_Md_part_109 ?_
                    refine lv_eqi (y := (f 16 k)) (show f 16 (nI k).toNatClampNeg = _ by rw [nI_clamp (by omega)]) ?_
                    refine lv_iconst (v := (-1)) hx hb d_Md_part_110 (by decide) ?_
                    refine lv_icmp_ne (x := (f 16 k)) (y := (-1)) (tgt := 135) hx hb d_Md_part_111 (by decide) (fun c111 => ?_) (fun c111 => ?_)
                    · skip
                      refine lv_iinc (v := (nI (k + 1))) (lv' := [(4, .int (nI (k + 1))), (5, .int 1), (0, .ref x), (1, .int qa), (2, .int qb), (3, .int dy)]) hx hb d_Md_part_135 hl (k := 5) rfl (nI_1 k) (by decide) rfl (fun ls hl => ?_)
                      refine lv_goto (tgt := 38) hx hb d_Md_part_138 (by decide) ?_
                      exact ih38  (k + 1) (by omega) (by omega) (hf9.trans (fst_miss (by omega) (by unfold partP; simp only [decide_eq_true c55, decide_eq_true c66, decide_eq_false c111]; simp))) _ hS ls (lv_sub hl [2, 3, 4, 5, 0] rfl)
                    · skip
                      refine lv_aload_n hx hb d_Md_part_114 rfl (lv_at hl 1 rfl) ?_
                      refine hx_get (v := .ref (g 15)) hx hb htg iMd hown hK hI.1 rfl 19 (by decide) (htg _ (gw_mem (i := 1017) (by decide +kernel) rfl)) (fun _ h9 => h9) rfl d_Md_part_115 ?_
                      refine lv_iload hx hb d_Md_part_118 (lv_at hl 5 rfl) ?_
                      refine hx_iald hx hb hK 0 (hI.2 15 (by decide)) rfl (show vp_in (nI k) 60 from vp_in_nI (n := k) (by omega) (by decide)) d_Md_part_120 ?_
                      refine lv_eqi (y := (f 15 k)) (show f 15 (nI k).toNatClampNeg = _ by rw [nI_clamp (by omega)]) ?_
                      refine lv_iload_n hx hb d_Md_part_121 rfl (lv_at hl 4 rfl) ?_
                      refine lv_icmp_ge (x := (f 15 k)) (y := dy) (tgt := 135) hx hb d_Md_part_122 (by decide) (fun c122 => ?_) (fun c122 => ?_)
                      · skip
                        refine lv_iinc (v := (nI (k + 1))) (lv' := [(4, .int (nI (k + 1))), (5, .int 1), (0, .ref x), (1, .int qa), (2, .int qb), (3, .int dy)]) hx hb d_Md_part_135 hl (k := 5) rfl (nI_1 k) (by decide) rfl (fun ls hl => ?_)
                        refine lv_goto (tgt := 38) hx hb d_Md_part_138 (by decide) ?_
                        exact ih38  (k + 1) (by omega) (by omega) (hf9.trans (fst_miss (by omega) (by unfold partP; simp only [decide_eq_true c55, decide_eq_true c66, decide_eq_true c111, decide_eq_true c122]; simp))) _ hS ls (lv_sub hl [2, 3, 4, 5, 0] rfl)
                      · skip
                        refine lv_aload_n hx hb d_Md_part_125 rfl (lv_at hl 1 rfl) ?_
                        refine hx_get (v := .ref (g 16)) hx hb htg iMd hown hK hI.1 rfl 20 (by decide) (htg _ (gw_mem (i := 1018) (by decide +kernel) rfl)) (fun _ h9 => h9) rfl d_Md_part_126 ?_
                        refine lv_iload hx hb d_Md_part_129 (lv_at hl 5 rfl) ?_
                        refine lv_iload_n hx hb d_Md_part_131 rfl (lv_at hl 4 rfl) ?_
                        refine hx_iast hx hb hK hS (Or.inr ⟨16, by decide, rfl⟩) 0 (hI.2 16 (by decide)) rfl (show vp_in (nI k) 60 from vp_in_nI (n := k) (by omega) (by decide)) d_Md_part_132 (fun H locs hat hz ho hS => ?_)
                        replace hI : md_I D cs H x g (upd i 0 (goV true (isD dy) true)) (updA f 16 k (dy)) := md_I.puta hI hsep (by decide) (by rw [show ((nI k) : Int32).toNatClampNeg = k from nI_clamp (n := k) (by omega)] at hat; exact hat) ho
                        refine lv_iconst (v := 1) hx hb d_Md_part_133 (by decide) ?_
                        exact W.zret (v := 1) hx hb hr (by decide) (fun t ht hW => ⟨⟨1, H, rfl, by dsimp only; have e0 : (isN n qa && isN n qb) = true := (by first | (simp [c6, c14, c30, c44, c55, c66, c111, c122]; done) | (simp [c6, c14, c30, c44, c55, c66, c111, c122]; omega) | omega | simp_all); rw [e0]; rw [if_pos c30]; exact (by have e9 := hf9.trans (fst_hit (by omega) (by unfold partP; simp only [decide_eq_true c55, decide_eq_true c66, decide_eq_true c111, decide_eq_false c122]; simp)); rw [if_neg (by rw [e9]; exact fun z9 => absurd (nI_pos' (n := k) (by omega)) (by rw [z9]; decide)), e9, show tn (nI k) = k from nI_clamp (by omega)]; exact ⟨hI, rfl⟩), ht⟩, hS.F ht⟩) hS.2.2 d_Md_part_134
                · skip
                  refine lv_aload_n hx hb d_Md_part_69 rfl (lv_at hl 0 rfl) ?_
                  refine hx_get (v := .ref (g 13)) hx hb htg iMd hown hK hI.1 rfl 17 (by decide) (htg _ (gw_mem (i := 1015) (by decide +kernel) rfl)) (fun _ h9 => h9) rfl d_Md_part_70 ?_
                  refine lv_iload hx hb d_Md_part_73 (lv_at hl 4 rfl) ?_
                  refine hx_iald hx hb hK 0 (hI.2 13 (by decide)) rfl (show vp_in (nI k) 60 from vp_in_nI (n := k) (by omega) (by decide)) d_Md_part_75 ?_
                  refine lv_eqi (y := (f 13 k)) (show f 13 (nI k).toNatClampNeg = _ by rw [nI_clamp (by omega)]) ?_
                  refine lv_iload_n hx hb d_Md_part_76 rfl (lv_at hl 2 rfl) ?_
                  refine lv_icmp_ne (x := (f 13 k)) (y := qb) (tgt := 95) hx hb d_Md_part_77 (by decide) (fun c77 => ?_) (fun c77 => ?_)
                  · skip
                    refine lv_iconst (v := 0) hx hb d_Md_part_95 (by decide) ?_
                    refine lv_istore (lv' := [(5, .int 0), (0, .ref x), (1, .int qa), (2, .int qb), (3, .int dy), (4, .int (nI k))]) hx hb d_Md_part_96 hl (by decide) rfl (fun ls hl => ?_)
                    refine lv_iload hx hb d_Md_part_98 (lv_at hl 0 rfl) ?_
                    refine lv_if_eq (x := 0) (tgt := 135) hx hb d_Md_part_100 (by decide) (fun c100 => ?_) (fun c100 => ?_)
                    · skip
                      refine lv_iinc (v := (nI (k + 1))) (lv' := [(4, .int (nI (k + 1))), (5, .int 0), (0, .ref x), (1, .int qa), (2, .int qb), (3, .int dy)]) hx hb d_Md_part_135 hl (k := 5) rfl (nI_1 k) (by decide) rfl (fun ls hl => ?_)
                      refine lv_goto (tgt := 38) hx hb d_Md_part_138 (by decide) ?_
                      exact ih38  (k + 1) (by omega) (by omega) (hf9.trans (fst_miss (by omega) (by unfold partP; simp only [decide_eq_true c55, decide_eq_false c66, decide_eq_false c77]; simp))) _ hS ls (lv_sub hl [2, 3, 4, 5, 0] rfl)
                    · exact absurd c100 (by decide)
                  · skip
                    refine lv_aload_n hx hb d_Md_part_80 rfl (lv_at hl 0 rfl) ?_
                    refine hx_get (v := .ref (g 14)) hx hb htg iMd hown hK hI.1 rfl 18 (by decide) (htg _ (gw_mem (i := 1016) (by decide +kernel) rfl)) (fun _ h9 => h9) rfl d_Md_part_81 ?_
                    refine lv_iload hx hb d_Md_part_84 (lv_at hl 4 rfl) ?_
                    refine hx_iald hx hb hK 0 (hI.2 14 (by decide)) rfl (show vp_in (nI k) 60 from vp_in_nI (n := k) (by omega) (by decide)) d_Md_part_86 ?_
                    refine lv_eqi (y := (f 14 k)) (show f 14 (nI k).toNatClampNeg = _ by rw [nI_clamp (by omega)]) ?_
                    refine lv_iload_n hx hb d_Md_part_87 rfl (lv_at hl 1 rfl) ?_
                    refine lv_icmp_ne (x := (f 14 k)) (y := qa) (tgt := 95) hx hb d_Md_part_88 (by decide) (fun c88 => ?_) (fun c88 => ?_)
                    · skip
                      refine lv_iconst (v := 0) hx hb d_Md_part_95 (by decide) ?_
                      refine lv_istore (lv' := [(5, .int 0), (0, .ref x), (1, .int qa), (2, .int qb), (3, .int dy), (4, .int (nI k))]) hx hb d_Md_part_96 hl (by decide) rfl (fun ls hl => ?_)
                      refine lv_iload hx hb d_Md_part_98 (lv_at hl 0 rfl) ?_
                      refine lv_if_eq (x := 0) (tgt := 135) hx hb d_Md_part_100 (by decide) (fun c100 => ?_) (fun c100 => ?_)
                      · skip
                        refine lv_iinc (v := (nI (k + 1))) (lv' := [(4, .int (nI (k + 1))), (5, .int 0), (0, .ref x), (1, .int qa), (2, .int qb), (3, .int dy)]) hx hb d_Md_part_135 hl (k := 5) rfl (nI_1 k) (by decide) rfl (fun ls hl => ?_)
                        refine lv_goto (tgt := 38) hx hb d_Md_part_138 (by decide) ?_
                        exact ih38  (k + 1) (by omega) (by omega) (hf9.trans (fst_miss (by omega) (by unfold partP; simp only [decide_eq_true c55, decide_eq_false c66, decide_eq_true c77, decide_eq_false c88]; simp))) _ hS ls (lv_sub hl [2, 3, 4, 5, 0] rfl)
                      · exact absurd c100 (by decide)
                    · skip
                      refine lv_iconst (v := 1) hx hb d_Md_part_91 (by decide) ?_
                      refine lv_goto (tgt := 96) hx hb d_Md_part_92 (by decide) ?_
                      refine lv_istore (lv' := [(5, .int 1), (0, .ref x), (1, .int qa), (2, .int qb), (3, .int dy), (4, .int (nI k))]) hx hb d_Md_part_96 hl (by decide) rfl (fun ls hl => ?_)
                      refine lv_iload hx hb d_Md_part_98 (lv_at hl 0 rfl) ?_
                      refine lv_if_eq (x := 1) (tgt := 135) hx hb d_Md_part_100 (by decide) (fun c100 => ?_) (fun c100 => ?_)
                      · exact absurd c100 (by decide)
                      · skip
                        refine lv_aload_n hx hb d_Md_part_103 rfl (lv_at hl 1 rfl) ?_
                        refine hx_get (v := .ref (g 16)) hx hb htg iMd hown hK hI.1 rfl 20 (by decide) (htg _ (gw_mem (i := 1018) (by decide +kernel) rfl)) (fun _ h9 => h9) rfl d_Md_part_104 ?_
                        refine lv_iload hx hb d_Md_part_107 (lv_at hl 5 rfl) ?_
                        refine hx_iald hx hb hK 0 (hI.2 16 (by decide)) rfl (show vp_in (nI k) 60 from vp_in_nI (n := k) (by omega) (by decide)) d_Md_part_109 ?_
                        refine lv_eqi (y := (f 16 k)) (show f 16 (nI k).toNatClampNeg = _ by rw [nI_clamp (by omega)]) ?_
                        refine lv_iconst (v := (-1)) hx hb d_Md_part_110 (by decide) ?_
                        refine lv_icmp_ne (x := (f 16 k)) (y := (-1)) (tgt := 135) hx hb d_Md_part_111 (by decide) (fun c111 => ?_) (fun c111 => ?_)
                        · skip
                          refine lv_iinc (v := (nI (k + 1))) (lv' := [(4, .int (nI (k + 1))), (5, .int 1), (0, .ref x), (1, .int qa), (2, .int qb), (3, .int dy)]) hx hb d_Md_part_135 hl (k := 5) rfl (nI_1 k) (by decide) rfl (fun ls hl => ?_)
                          refine lv_goto (tgt := 38) hx hb d_Md_part_138 (by decide) ?_
                          exact ih38  (k + 1) (by omega) (by omega) (hf9.trans (fst_miss (by omega) (by unfold partP; simp only [decide_eq_true c55, decide_eq_false c66, decide_eq_true c77, decide_eq_true c88, decide_eq_false c111]; simp))) _ hS ls (lv_sub hl [2, 3, 4, 5, 0] rfl)
                        · skip
                          refine lv_aload_n hx hb d_Md_part_114 rfl (lv_at hl 1 rfl) ?_
                          refine hx_get (v := .ref (g 15)) hx hb htg iMd hown hK hI.1 rfl 19 (by decide) (htg _ (gw_mem (i := 1017) (by decide +kernel) rfl)) (fun _ h9 => h9) rfl d_Md_part_115 ?_
                          refine lv_iload hx hb d_Md_part_118 (lv_at hl 5 rfl) ?_
                          refine hx_iald hx hb hK 0 (hI.2 15 (by decide)) rfl (show vp_in (nI k) 60 from vp_in_nI (n := k) (by omega) (by decide)) d_Md_part_120 ?_
                          refine lv_eqi (y := (f 15 k)) (show f 15 (nI k).toNatClampNeg = _ by rw [nI_clamp (by omega)]) ?_
                          refine lv_iload_n hx hb d_Md_part_121 rfl (lv_at hl 4 rfl) ?_
                          refine lv_icmp_ge (x := (f 15 k)) (y := dy) (tgt := 135) hx hb d_Md_part_122 (by decide) (fun c122 => ?_) (fun c122 => ?_)
                          · skip
                            refine lv_iinc (v := (nI (k + 1))) (lv' := [(4, .int (nI (k + 1))), (5, .int 1), (0, .ref x), (1, .int qa), (2, .int qb), (3, .int dy)]) hx hb d_Md_part_135 hl (k := 5) rfl (nI_1 k) (by decide) rfl (fun ls hl => ?_)
                            refine lv_goto (tgt := 38) hx hb d_Md_part_138 (by decide) ?_
                            exact ih38  (k + 1) (by omega) (by omega) (hf9.trans (fst_miss (by omega) (by unfold partP; simp only [decide_eq_true c55, decide_eq_false c66, decide_eq_true c77, decide_eq_true c88, decide_eq_true c111, decide_eq_true c122]; simp))) _ hS ls (lv_sub hl [2, 3, 4, 5, 0] rfl)
                          · skip
                            refine lv_aload_n hx hb d_Md_part_125 rfl (lv_at hl 1 rfl) ?_
                            refine hx_get (v := .ref (g 16)) hx hb htg iMd hown hK hI.1 rfl 20 (by decide) (htg _ (gw_mem (i := 1018) (by decide +kernel) rfl)) (fun _ h9 => h9) rfl d_Md_part_126 ?_
                            refine lv_iload hx hb d_Md_part_129 (lv_at hl 5 rfl) ?_
                            refine lv_iload_n hx hb d_Md_part_131 rfl (lv_at hl 4 rfl) ?_
                            refine hx_iast hx hb hK hS (Or.inr ⟨16, by decide, rfl⟩) 0 (hI.2 16 (by decide)) rfl (show vp_in (nI k) 60 from vp_in_nI (n := k) (by omega) (by decide)) d_Md_part_132 (fun H locs hat hz ho hS => ?_)
                            replace hI : md_I D cs H x g (upd i 0 (goV true (isD dy) true)) (updA f 16 k (dy)) := md_I.puta hI hsep (by decide) (by rw [show ((nI k) : Int32).toNatClampNeg = k from nI_clamp (n := k) (by omega)] at hat; exact hat) ho
                            refine lv_iconst (v := 1) hx hb d_Md_part_133 (by decide) ?_
                            exact W.zret (v := 1) hx hb hr (by decide) (fun t ht hW => ⟨⟨1, H, rfl, by dsimp only; have e0 : (isN n qa && isN n qb) = true := (by first | (simp [c6, c14, c30, c44, c55, c66, c77, c88, c111, c122]; done) | (simp [c6, c14, c30, c44, c55, c66, c77, c88, c111, c122]; omega) | omega | simp_all); rw [e0]; rw [if_pos c30]; exact (by have e9 := hf9.trans (fst_hit (by omega) (by unfold partP; simp only [decide_eq_true c55, decide_eq_false c66, decide_eq_true c77, decide_eq_true c88, decide_eq_true c111, decide_eq_false c122]; simp)); rw [if_neg (by rw [e9]; exact fun z9 => absurd (nI_pos' (n := k) (by omega)) (by rw [z9]; decide)), e9, show tn (nI k) = k from nI_clamp (by omega)]; exact ⟨hI, rfl⟩), ht⟩, hS.F ht⟩) hS.2.2 d_Md_part_134
        exact loop38 ((mg - 0) + 1) 0 (Nat.lt_succ_self _) (Nat.zero_le _) rfl _ hS ls (lv_sub hl [1, 2, 3, 4, 0] rfl)
      · skip
        replace c30 : (goB true (isD dy) true) = false := bI_0 c30
        refine lv_iconst (v := 0) hx hb d_Md_part_33 (by decide) ?_
        exact W.zret (v := 0) hx hb hr (by decide) (fun t ht hW => ⟨⟨0, H, rfl, by dsimp only; have e0 : (isN n qa && isN n qb) = true := (by first | (simp [c6, c14, c30]; done) | (simp [c6, c14, c30]; omega) | omega | simp_all); rw [e0]; rw [if_neg (show ¬ goB true (isD dy) true = true by rw [c30]; decide)]; exact ⟨hI, rfl⟩, ht⟩, hS.F ht⟩) hS.2.2 d_Md_part_34
def y_Md_common : MethodName := ⟨"NameMergesModel", "common", "(II)I"⟩
abbrev w_Md_common : List Cond := Cond.code y_Md_common prog_7_method_11_code 6 (Option.some Jvm.ClassFile.FieldType.int) :: gw
theorem d_Md_common_0 : decode prog_7_method_11_code 0 = .ok (.iconst 0, 1) := by decide +kernel
theorem d_Md_common_1 : decode prog_7_method_11_code 1 = .ok (.istore_n 3, 1) := by decide +kernel
theorem d_Md_common_2 : decode prog_7_method_11_code 2 = .ok (.iload_n 3, 1) := by decide +kernel
theorem d_Md_common_3 : decode prog_7_method_11_code 3 = .ok (.aload_n 0, 1) := by decide +kernel
theorem d_Md_common_4 : decode prog_7_method_11_code 4 = .ok (.getfield 16, 3) := by decide +kernel
theorem d_Md_common_7 : decode prog_7_method_11_code 7 = .ok (.iload_n 1, 1) := by decide +kernel
theorem d_Md_common_8 : decode prog_7_method_11_code 8 = .ok (.iaload, 1) := by decide +kernel
theorem d_Md_common_9 : decode prog_7_method_11_code 9 = .ok (.if_icmp .gt 161, 3) := by decide +kernel
theorem d_Md_common_12 : decode prog_7_method_11_code 12 = .ok (.iconst 0, 1) := by decide +kernel
theorem d_Md_common_13 : decode prog_7_method_11_code 13 = .ok (.istore 4, 2) := by decide +kernel
theorem d_Md_common_15 : decode prog_7_method_11_code 15 = .ok (.iload 4, 2) := by decide +kernel
theorem d_Md_common_17 : decode prog_7_method_11_code 17 = .ok (.aload_n 0, 1) := by decide +kernel
theorem d_Md_common_18 : decode prog_7_method_11_code 18 = .ok (.getfield 16, 3) := by decide +kernel
theorem d_Md_common_21 : decode prog_7_method_11_code 21 = .ok (.iload_n 2, 1) := by decide +kernel
theorem d_Md_common_22 : decode prog_7_method_11_code 22 = .ok (.iaload, 1) := by decide +kernel
theorem d_Md_common_23 : decode prog_7_method_11_code 23 = .ok (.if_icmp .gt 141, 3) := by decide +kernel
theorem d_Md_common_26 : decode prog_7_method_11_code 26 = .ok (.bipush 13, 2) := by decide +kernel
theorem d_Md_common_28 : decode prog_7_method_11_code 28 = .ok (.iload_n 3, 1) := by decide +kernel
theorem d_Md_common_29 : decode prog_7_method_11_code 29 = .ok (.imul, 1) := by decide +kernel
theorem d_Md_common_30 : decode prog_7_method_11_code 30 = .ok (.iload 4, 2) := by decide +kernel
theorem d_Md_common_32 : decode prog_7_method_11_code 32 = .ok (.iadd, 1) := by decide +kernel
theorem d_Md_common_33 : decode prog_7_method_11_code 33 = .ok (.istore 5, 2) := by decide +kernel
theorem d_Md_common_35 : decode prog_7_method_11_code 35 = .ok (.iload_n 3, 1) := by decide +kernel
theorem d_Md_common_36 : decode prog_7_method_11_code 36 = .ok (.ifCond .eq 8, 3) := by decide +kernel
theorem d_Md_common_39 : decode prog_7_method_11_code 39 = .ok (.iload 4, 2) := by decide +kernel
theorem d_Md_common_41 : decode prog_7_method_11_code 41 = .ok (.ifCond .ne 14, 3) := by decide +kernel
theorem d_Md_common_44 : decode prog_7_method_11_code 44 = .ok (.aload_n 0, 1) := by decide +kernel
theorem d_Md_common_45 : decode prog_7_method_11_code 45 = .ok (.getfield 74, 3) := by decide +kernel
theorem d_Md_common_48 : decode prog_7_method_11_code 48 = .ok (.iload 5, 2) := by decide +kernel
theorem d_Md_common_50 : decode prog_7_method_11_code 50 = .ok (.iconst 0, 1) := by decide +kernel
theorem d_Md_common_51 : decode prog_7_method_11_code 51 = .ok (.iastore, 1) := by decide +kernel
theorem d_Md_common_52 : decode prog_7_method_11_code 52 = .ok (.goto 106, 3) := by decide +kernel
theorem d_Md_common_55 : decode prog_7_method_11_code 55 = .ok (.aload_n 0, 1) := by decide +kernel
theorem d_Md_common_56 : decode prog_7_method_11_code 56 = .ok (.getfield 19, 3) := by decide +kernel
theorem d_Md_common_59 : decode prog_7_method_11_code 59 = .ok (.bipush 12, 2) := by decide +kernel
theorem d_Md_common_61 : decode prog_7_method_11_code 61 = .ok (.iload_n 1, 1) := by decide +kernel
theorem d_Md_common_62 : decode prog_7_method_11_code 62 = .ok (.imul, 1) := by decide +kernel
theorem d_Md_common_63 : decode prog_7_method_11_code 63 = .ok (.iload_n 3, 1) := by decide +kernel
theorem d_Md_common_64 : decode prog_7_method_11_code 64 = .ok (.iadd, 1) := by decide +kernel
theorem d_Md_common_65 : decode prog_7_method_11_code 65 = .ok (.iconst 1, 1) := by decide +kernel
theorem d_Md_common_66 : decode prog_7_method_11_code 66 = .ok (.isub, 1) := by decide +kernel
theorem d_Md_common_67 : decode prog_7_method_11_code 67 = .ok (.iaload, 1) := by decide +kernel
theorem d_Md_common_68 : decode prog_7_method_11_code 68 = .ok (.aload_n 0, 1) := by decide +kernel
theorem d_Md_common_69 : decode prog_7_method_11_code 69 = .ok (.getfield 19, 3) := by decide +kernel
theorem d_Md_common_72 : decode prog_7_method_11_code 72 = .ok (.bipush 12, 2) := by decide +kernel
theorem d_Md_common_74 : decode prog_7_method_11_code 74 = .ok (.iload_n 2, 1) := by decide +kernel
theorem d_Md_common_75 : decode prog_7_method_11_code 75 = .ok (.imul, 1) := by decide +kernel
theorem d_Md_common_76 : decode prog_7_method_11_code 76 = .ok (.iload 4, 2) := by decide +kernel
theorem d_Md_common_78 : decode prog_7_method_11_code 78 = .ok (.iadd, 1) := by decide +kernel
theorem d_Md_common_79 : decode prog_7_method_11_code 79 = .ok (.iconst 1, 1) := by decide +kernel
theorem d_Md_common_80 : decode prog_7_method_11_code 80 = .ok (.isub, 1) := by decide +kernel
theorem d_Md_common_81 : decode prog_7_method_11_code 81 = .ok (.iaload, 1) := by decide +kernel
theorem d_Md_common_82 : decode prog_7_method_11_code 82 = .ok (.if_icmp .ne 25, 3) := by decide +kernel
theorem d_Md_common_85 : decode prog_7_method_11_code 85 = .ok (.aload_n 0, 1) := by decide +kernel
theorem d_Md_common_86 : decode prog_7_method_11_code 86 = .ok (.getfield 74, 3) := by decide +kernel
theorem d_Md_common_89 : decode prog_7_method_11_code 89 = .ok (.iload 5, 2) := by decide +kernel
theorem d_Md_common_91 : decode prog_7_method_11_code 91 = .ok (.aload_n 0, 1) := by decide +kernel
theorem d_Md_common_92 : decode prog_7_method_11_code 92 = .ok (.getfield 74, 3) := by decide +kernel
theorem d_Md_common_95 : decode prog_7_method_11_code 95 = .ok (.iload 5, 2) := by decide +kernel
theorem d_Md_common_97 : decode prog_7_method_11_code 97 = .ok (.bipush 14, 2) := by decide +kernel
theorem d_Md_common_99 : decode prog_7_method_11_code 99 = .ok (.isub, 1) := by decide +kernel
theorem d_Md_common_100 : decode prog_7_method_11_code 100 = .ok (.iaload, 1) := by decide +kernel
theorem d_Md_common_101 : decode prog_7_method_11_code 101 = .ok (.iconst 1, 1) := by decide +kernel
theorem d_Md_common_102 : decode prog_7_method_11_code 102 = .ok (.iadd, 1) := by decide +kernel
theorem d_Md_common_103 : decode prog_7_method_11_code 103 = .ok (.iastore, 1) := by decide +kernel
theorem d_Md_common_104 : decode prog_7_method_11_code 104 = .ok (.goto 54, 3) := by decide +kernel
theorem d_Md_common_107 : decode prog_7_method_11_code 107 = .ok (.aload_n 0, 1) := by decide +kernel
theorem d_Md_common_108 : decode prog_7_method_11_code 108 = .ok (.getfield 74, 3) := by decide +kernel
theorem d_Md_common_111 : decode prog_7_method_11_code 111 = .ok (.iload 5, 2) := by decide +kernel
theorem d_Md_common_113 : decode prog_7_method_11_code 113 = .ok (.aload_n 0, 1) := by decide +kernel
theorem d_Md_common_114 : decode prog_7_method_11_code 114 = .ok (.getfield 74, 3) := by decide +kernel
theorem d_Md_common_117 : decode prog_7_method_11_code 117 = .ok (.iload 5, 2) := by decide +kernel
theorem d_Md_common_119 : decode prog_7_method_11_code 119 = .ok (.bipush 13, 2) := by decide +kernel
theorem d_Md_common_121 : decode prog_7_method_11_code 121 = .ok (.isub, 1) := by decide +kernel
theorem d_Md_common_122 : decode prog_7_method_11_code 122 = .ok (.iaload, 1) := by decide +kernel
theorem d_Md_common_123 : decode prog_7_method_11_code 123 = .ok (.aload_n 0, 1) := by decide +kernel
theorem d_Md_common_124 : decode prog_7_method_11_code 124 = .ok (.getfield 74, 3) := by decide +kernel
theorem d_Md_common_127 : decode prog_7_method_11_code 127 = .ok (.iload 5, 2) := by decide +kernel
theorem d_Md_common_129 : decode prog_7_method_11_code 129 = .ok (.iconst 1, 1) := by decide +kernel
theorem d_Md_common_130 : decode prog_7_method_11_code 130 = .ok (.isub, 1) := by decide +kernel
theorem d_Md_common_131 : decode prog_7_method_11_code 131 = .ok (.iaload, 1) := by decide +kernel
theorem d_Md_common_132 : decode prog_7_method_11_code 132 = .ok (.if_icmp .le 16, 3) := by decide +kernel
theorem d_Md_common_135 : decode prog_7_method_11_code 135 = .ok (.aload_n 0, 1) := by decide +kernel
theorem d_Md_common_136 : decode prog_7_method_11_code 136 = .ok (.getfield 74, 3) := by decide +kernel
theorem d_Md_common_139 : decode prog_7_method_11_code 139 = .ok (.iload 5, 2) := by decide +kernel
theorem d_Md_common_141 : decode prog_7_method_11_code 141 = .ok (.bipush 13, 2) := by decide +kernel
theorem d_Md_common_143 : decode prog_7_method_11_code 143 = .ok (.isub, 1) := by decide +kernel
theorem d_Md_common_144 : decode prog_7_method_11_code 144 = .ok (.iaload, 1) := by decide +kernel
theorem d_Md_common_145 : decode prog_7_method_11_code 145 = .ok (.goto 12, 3) := by decide +kernel
theorem d_Md_common_148 : decode prog_7_method_11_code 148 = .ok (.aload_n 0, 1) := by decide +kernel
theorem d_Md_common_149 : decode prog_7_method_11_code 149 = .ok (.getfield 74, 3) := by decide +kernel
theorem d_Md_common_152 : decode prog_7_method_11_code 152 = .ok (.iload 5, 2) := by decide +kernel
theorem d_Md_common_154 : decode prog_7_method_11_code 154 = .ok (.iconst 1, 1) := by decide +kernel
theorem d_Md_common_155 : decode prog_7_method_11_code 155 = .ok (.isub, 1) := by decide +kernel
theorem d_Md_common_156 : decode prog_7_method_11_code 156 = .ok (.iaload, 1) := by decide +kernel
theorem d_Md_common_157 : decode prog_7_method_11_code 157 = .ok (.iastore, 1) := by decide +kernel
theorem d_Md_common_158 : decode prog_7_method_11_code 158 = .ok (.iinc 4 1, 3) := by decide +kernel
theorem d_Md_common_161 : decode prog_7_method_11_code 161 = .ok (.goto (-146), 3) := by decide +kernel
theorem d_Md_common_164 : decode prog_7_method_11_code 164 = .ok (.iinc 3 1, 3) := by decide +kernel
theorem d_Md_common_167 : decode prog_7_method_11_code 167 = .ok (.goto (-165), 3) := by decide +kernel
theorem d_Md_common_170 : decode prog_7_method_11_code 170 = .ok (.aload_n 0, 1) := by decide +kernel
theorem d_Md_common_171 : decode prog_7_method_11_code 171 = .ok (.getfield 74, 3) := by decide +kernel
theorem d_Md_common_174 : decode prog_7_method_11_code 174 = .ok (.bipush 13, 2) := by decide +kernel
theorem d_Md_common_176 : decode prog_7_method_11_code 176 = .ok (.aload_n 0, 1) := by decide +kernel
theorem d_Md_common_177 : decode prog_7_method_11_code 177 = .ok (.getfield 16, 3) := by decide +kernel
theorem d_Md_common_180 : decode prog_7_method_11_code 180 = .ok (.iload_n 1, 1) := by decide +kernel
theorem d_Md_common_181 : decode prog_7_method_11_code 181 = .ok (.iaload, 1) := by decide +kernel
theorem d_Md_common_182 : decode prog_7_method_11_code 182 = .ok (.imul, 1) := by decide +kernel
theorem d_Md_common_183 : decode prog_7_method_11_code 183 = .ok (.aload_n 0, 1) := by decide +kernel
theorem d_Md_common_184 : decode prog_7_method_11_code 184 = .ok (.getfield 16, 3) := by decide +kernel
theorem d_Md_common_187 : decode prog_7_method_11_code 187 = .ok (.iload_n 2, 1) := by decide +kernel
theorem d_Md_common_188 : decode prog_7_method_11_code 188 = .ok (.iaload, 1) := by decide +kernel
theorem d_Md_common_189 : decode prog_7_method_11_code 189 = .ok (.iadd, 1) := by decide +kernel
theorem d_Md_common_190 : decode prog_7_method_11_code 190 = .ok (.iaload, 1) := by decide +kernel
theorem d_Md_common_191 : decode prog_7_method_11_code 191 = .ok (.ireturn, 1) := by decide +kernel
set_option maxHeartbeats 4000000 in
set_option maxRecDepth 100000 in
theorem c_Md_common (l : Launch) (D : va_G) (cs : Nat → ClassId) (N0 : Nat) (H : Heap) (x : Nat) (g : Nat → Nat) (i : Nat → Int32) (f : Nat → Nat → Int32) (v w : Nat) (hsep : md_sep N0 x g) (hI : md_I D cs H x g i f) (ln : Nat → Nat) (hln : ∀ v, v < 96 → f 2 v = nI (ln v) ∧ ln v ≤ 12) (hv : v < 96) (hw : w < 96) : Met l y_Md_common w_Md_common ({ frames := 0, cells := 0, slots := 0, locals := 0 }) (hPre D cs N0 [.ref x, .int (nI v), .int (nI w)] H) (hQi (fun r H' => ∃ R : Nat → Int32, md_I D cs H' x g i (setA f 21 R) ∧ r = nI (lcsV f ln v w)) (md_A x g)) 0 0 (md_A x g) := by
  refine Met.ofW (cc := prog_7_method_11_code) (maxL := 6) (ret := (Option.some Jvm.ClassFile.FieldType.int)) (by decide) rfl ?_
  intro p e s m args below meth c s₁ B hml hv
  obtain ⟨rfl, rfl, hB⟩ := hv
  have hx := B.exec
  have hb := B.bytes
  have hr := B.returns
  have hts := atoms_spec (ws := w_Md_common) B.pre
  have htg : ∀ w ∈ gw, w.before _ s = true := fun w h => hts w (List.mem_cons_of_mem _ h)
  have hown : s.vm.findClass "NameMergesModel" = some m.cls := findClass_of_methodNamed B.named
  have hlocks := B.notSynchronized
  have hK := hB.1
  have hS : va_S (md_A x g) s.heap s.heap [] := va_S.rf
  obtain ⟨H, hH⟩ : ∃ z : Heap, z = s.heap := ⟨_, rfl⟩
  rw [← hH] at hI
  have hS : va_S (md_A x g) s.heap H [] := by rw [hH]; exact va_S.rf
  have hl := lv_entry ([.ref x, .int (nI v), .int (nI w)]) (n := 6) (Nat.le_of_ble_eq_true rfl)
  rw [lg_entry_eq, ← hH]
  generalize (lg_sl ([.ref x, .int (nI v), .int (nI w)]) ++ List.replicate (6 - (lg_sl ([.ref x, .int (nI v), .int (nI w)])).length) Slot.unset).toArray = ls at hl ⊢
  have hl : lv_has ls 6 [(0, .ref x), (1, .int (nI v)), (2, .int (nI w))] := hl
  have hv12 := (hln v hv).2
  have hw12 := (hln w hw).2
  refine lv_iconst (v := 0) hx hb d_Md_common_0 (by decide) ?_
  refine lv_istore_n (lv' := [(3, .int 0), (0, .ref x), (1, .int (nI v)), (2, .int (nI w))]) hx hb d_Md_common_1 rfl hl (by decide) rfl (fun ls hl => ?_)
  have loop2 : ∀ (fuel : Nat) (F2 : Nat → Nat → Int32) (a : Nat), ln v + 1 - a < fuel → (a ≤ ln v + 1) → (∀ q, q ≠ 21 → F2 q = f q) → (∀ p c, p < a → c ≤ ln w → F2 21 (13 * p + c) = nI ((lcs (tx9 f v) (tx9 f w)) p c)) → ∀ (H : Heap) (locs : List Loc), md_I D cs H x g i F2 → va_S (md_A x g) s.heap H locs → ∀ (ls : Array Slot), lv_has ls 6 [(0, .ref x), (1, .int (nI v)), (2, .int (nI w)), (3, .int (nI a))] → W p l e (headSpec w_Md_common ({ frames := 0, cells := 0, slots := 0, locals := 0 })).room s m ([.ref x, .int (nI v), .int (nI w)] : List Value).toArray below meth c H locs 0 0 (MQ below (hQi (fun r H' => ∃ R : Nat → Int32, md_I D cs H' x g i (setA f 21 R) ∧ r = nI (lcsV f ln v w)) (md_A x g)) ([.ref x, .int (nI v), .int (nI w)] : List Value).toArray s 0 0 (md_A x g)) (F0 m 2 ls []) := by
    intro fuel2
    induction fuel2 with
    | zero => intro F2 a hn; exact absurd hn (Nat.not_lt_zero _)
    | succ fuel2 ih2 =>
      intro F2 a hn2 ha hF2 hR2 H locs hI hS ls hl
      refine lv_iload_n hx hb d_Md_common_2 rfl (lv_at hl 3 rfl) ?_
      refine lv_aload_n hx hb d_Md_common_3 rfl (lv_at hl 0 rfl) ?_
      refine hx_get (v := .ref (g 2)) hx hb htg iMd hown hK hI.1 rfl 5 (by decide) (htg _ (gw_mem (i := 1003) (by decide +kernel) rfl)) (fun _ h9 => h9) rfl d_Md_common_4 ?_
      refine lv_iload_n hx hb d_Md_common_7 rfl (lv_at hl 1 rfl) ?_
      refine hx_iald hx hb hK 0 (hI.2 2 (by decide)) rfl (show vp_in (nI v) 96 from vp_in_nI (n := v) (by omega) (by decide)) d_Md_common_8 ?_
      refine lv_eqi (y := (F2 2 v)) (show F2 2 (nI v).toNatClampNeg = _ by rw [nI_clamp (by omega)]) ?_
      refine lv_eqi (y := (nI (ln v))) (by rw [hF2 2 (by decide)]; exact (hln v hv).1) ?_
      refine lv_icmp_gt (x := (nI a)) (y := (nI (ln v))) (tgt := 170) hx hb d_Md_common_9 (by decide) (fun c9 => ?_) (fun c9 => ?_)
      · skip
        replace c9 : (ln v) < a := (nI_ltI (a := (ln v)) (b := a) (by omega) (by omega)).mp c9
        refine lv_aload_n hx hb d_Md_common_170 rfl (lv_at hl 0 rfl) ?_
        refine hx_get (v := .ref (g 21)) hx hb htg iMd hown hK hI.1 rfl 27 (by decide) (htg _ (gw_mem (i := 1025) (by decide +kernel) rfl)) (fun _ h9 => h9) rfl d_Md_common_171 ?_
        refine lv_bipush (v := 13) hx hb d_Md_common_174 (by decide) ?_
        refine lv_aload_n hx hb d_Md_common_176 rfl (lv_at hl 0 rfl) ?_
        refine hx_get (v := .ref (g 2)) hx hb htg iMd hown hK hI.1 rfl 5 (by decide) (htg _ (gw_mem (i := 1003) (by decide +kernel) rfl)) (fun _ h9 => h9) rfl d_Md_common_177 ?_
        refine lv_iload_n hx hb d_Md_common_180 rfl (lv_at hl 1 rfl) ?_
        refine hx_iald hx hb hK 0 (hI.2 2 (by decide)) rfl (show vp_in (nI v) 96 from vp_in_nI (n := v) (by omega) (by decide)) d_Md_common_181 ?_
        refine lv_eqi (y := (F2 2 v)) (show F2 2 (nI v).toNatClampNeg = _ by rw [nI_clamp (by omega)]) ?_
        refine lv_eqi (y := (nI (ln v))) (by rw [hF2 2 (by decide)]; exact (hln v hv).1) ?_
        refine lv_imul (x := 13) (y := (nI (ln v))) hx hb d_Md_common_182 ?_
        refine lv_eqi (y := (nI (13 * (ln v)))) (pk_mul 13 (ln v)) ?_
        refine lv_aload_n hx hb d_Md_common_183 rfl (lv_at hl 0 rfl) ?_
        refine hx_get (v := .ref (g 2)) hx hb htg iMd hown hK hI.1 rfl 5 (by decide) (htg _ (gw_mem (i := 1003) (by decide +kernel) rfl)) (fun _ h9 => h9) rfl d_Md_common_184 ?_
        refine lv_iload_n hx hb d_Md_common_187 rfl (lv_at hl 2 rfl) ?_
        refine hx_iald hx hb hK 0 (hI.2 2 (by decide)) rfl (show vp_in (nI w) 96 from vp_in_nI (n := w) (by omega) (by decide)) d_Md_common_188 ?_
        refine lv_eqi (y := (F2 2 w)) (show F2 2 (nI w).toNatClampNeg = _ by rw [nI_clamp (by omega)]) ?_
        refine lv_eqi (y := (nI (ln w))) (by rw [hF2 2 (by decide)]; exact (hln w hw).1) ?_
        refine lv_iadd (x := (nI (13 * (ln v)))) (y := (nI (ln w))) hx hb d_Md_common_189 ?_
        refine lv_eqi (y := (nI (13 * (ln v) + ln w))) (nI_add (13 * (ln v)) (ln w)) ?_
        refine hx_iald hx hb hK 0 (hI.2 21 (by decide)) rfl (show vp_in (nI (13 * (ln v) + ln w)) 169 from vp_in_nI (n := 13 * (ln v) + ln w) (by omega) (by decide)) d_Md_common_190 ?_
        refine lv_eqi (y := (F2 21 (13 * (ln v) + ln w))) (show F2 21 (nI (13 * (ln v) + ln w)).toNatClampNeg = _ by rw [nI_clamp (by omega)]) ?_
        refine lv_eqi (y := (nI ((lcs (tx9 f v) (tx9 f w)) (ln v) (ln w)))) (hR2 (ln v) (ln w) (by omega) (Nat.le_refl _)) ?_
        exact W.iret (v := (nI ((lcs (tx9 f v) (tx9 f w)) (ln v) (ln w)))) hx hb hr (fun t ht hW => ⟨⟨(nI ((lcs (tx9 f v) (tx9 f w)) (ln v) (ln w))), H, rfl, ⟨F2 21, setA_of hF2 ▸ hI, rfl⟩, ht⟩, hS.F ht⟩) hS.2.2 d_Md_common_191
      · skip
        replace c9 : ¬ ((ln v) < a) := fun z9 => c9 ((nI_ltI (a := (ln v)) (b := a) (by omega) (by omega)).mpr z9)
        refine lv_iconst (v := 0) hx hb d_Md_common_12 (by decide) ?_
        refine lv_istore (lv' := [(4, .int 0), (0, .ref x), (1, .int (nI v)), (2, .int (nI w)), (3, .int (nI a))]) hx hb d_Md_common_13 hl (by decide) rfl (fun ls hl => ?_)
        have loop15 : ∀ (fuel : Nat) (F3 : Nat → Nat → Int32) (b : Nat), ln w + 1 - b < fuel → (b ≤ ln w + 1) → (∀ q, q ≠ 21 → F3 q = f q) → (∀ p c, p < a → c ≤ ln w → F3 21 (13 * p + c) = nI ((lcs (tx9 f v) (tx9 f w)) p c)) → (∀ c, c < b → F3 21 (13 * a + c) = nI ((lcs (tx9 f v) (tx9 f w)) a c)) → ∀ (H : Heap) (locs : List Loc), md_I D cs H x g i F3 → va_S (md_A x g) s.heap H locs → ∀ (ls : Array Slot), lv_has ls 6 [(0, .ref x), (1, .int (nI v)), (2, .int (nI w)), (3, .int (nI a)), (4, .int (nI b))] → W p l e (headSpec w_Md_common ({ frames := 0, cells := 0, slots := 0, locals := 0 })).room s m ([.ref x, .int (nI v), .int (nI w)] : List Value).toArray below meth c H locs 0 0 (MQ below (hQi (fun r H' => ∃ R : Nat → Int32, md_I D cs H' x g i (setA f 21 R) ∧ r = nI (lcsV f ln v w)) (md_A x g)) ([.ref x, .int (nI v), .int (nI w)] : List Value).toArray s 0 0 (md_A x g)) (F0 m 15 ls []) := by
          intro fuel15
          induction fuel15 with
          | zero => intro F3 b hn; exact absurd hn (Nat.not_lt_zero _)
          | succ fuel15 ih15 =>
            intro F3 b hn15 hb9 hF3 hR3 hC3 H locs hI hS ls hl
            refine lv_iload hx hb d_Md_common_15 (lv_at hl 4 rfl) ?_
            refine lv_aload_n hx hb d_Md_common_17 rfl (lv_at hl 0 rfl) ?_
            refine hx_get (v := .ref (g 2)) hx hb htg iMd hown hK hI.1 rfl 5 (by decide) (htg _ (gw_mem (i := 1003) (by decide +kernel) rfl)) (fun _ h9 => h9) rfl d_Md_common_18 ?_
            refine lv_iload_n hx hb d_Md_common_21 rfl (lv_at hl 2 rfl) ?_
            refine hx_iald hx hb hK 0 (hI.2 2 (by decide)) rfl (show vp_in (nI w) 96 from vp_in_nI (n := w) (by omega) (by decide)) d_Md_common_22 ?_
            refine lv_eqi (y := (F3 2 w)) (show F3 2 (nI w).toNatClampNeg = _ by rw [nI_clamp (by omega)]) ?_
            refine lv_eqi (y := (nI (ln w))) (by rw [hF3 2 (by decide)]; exact (hln w hw).1) ?_
            refine lv_icmp_gt (x := (nI b)) (y := (nI (ln w))) (tgt := 164) hx hb d_Md_common_23 (by decide) (fun c23 => ?_) (fun c23 => ?_)
            · skip
              replace c23 : (ln w) < b := (nI_ltI (a := (ln w)) (b := b) (by omega) (by omega)).mp c23
              refine lv_iinc (v := (nI (a + 1))) (lv' := [(3, .int (nI (a + 1))), (0, .ref x), (1, .int (nI v)), (2, .int (nI w)), (4, .int (nI b))]) hx hb d_Md_common_164 hl (k := 3) rfl (nI_1 a) (by decide) rfl (fun ls hl => ?_)
              refine lv_goto (tgt := 2) hx hb d_Md_common_167 (by decide) ?_
              exact ih2  _ (a + 1) (by omega) (by omega) hF3 (fun p c hp hc => by by_cases e9 : p = a; (· subst e9; exact hC3 c (by omega)); (· exact hR3 p c (by omega) hc)) _ _ hI hS ls (lv_sub hl [1, 2, 3, 0] rfl)
            · skip
              replace c23 : ¬ ((ln w) < b) := fun z9 => c23 ((nI_ltI (a := (ln w)) (b := b) (by omega) (by omega)).mpr z9)
              refine lv_bipush (v := 13) hx hb d_Md_common_26 (by decide) ?_
              refine lv_iload_n hx hb d_Md_common_28 rfl (lv_at hl 3 rfl) ?_
              refine lv_imul (x := 13) (y := (nI a)) hx hb d_Md_common_29 ?_
              refine lv_eqi (y := (nI (13 * a))) (pk_mul 13 a) ?_
              refine lv_iload hx hb d_Md_common_30 (lv_at hl 4 rfl) ?_
              refine lv_iadd (x := (nI (13 * a))) (y := (nI b)) hx hb d_Md_common_32 ?_
              refine lv_eqi (y := (nI (13 * a + b))) (nI_add (13 * a) b) ?_
              refine lv_istore (lv' := [(5, .int (nI (13 * a + b))), (0, .ref x), (1, .int (nI v)), (2, .int (nI w)), (3, .int (nI a)), (4, .int (nI b))]) hx hb d_Md_common_33 hl (by decide) rfl (fun ls hl => ?_)
              refine lv_iload_n hx hb d_Md_common_35 rfl (lv_at hl 4 rfl) ?_
              refine lv_if_eq (x := (nI a)) (tgt := 44) hx hb d_Md_common_36 (by decide) (fun c36 => ?_) (fun c36 => ?_)
              · skip
                replace c36 : a = 0 := (nI_eq (a := a) (b := 0) (by omega) (by omega)).mp c36
                refine lv_aload_n hx hb d_Md_common_44 rfl (lv_at hl 1 rfl) ?_
                refine hx_get (v := .ref (g 21)) hx hb htg iMd hown hK hI.1 rfl 27 (by decide) (htg _ (gw_mem (i := 1025) (by decide +kernel) rfl)) (fun _ h9 => h9) rfl d_Md_common_45 ?_
                refine lv_iload hx hb d_Md_common_48 (lv_at hl 0 rfl) ?_
                refine lv_iconst (v := 0) hx hb d_Md_common_50 (by decide) ?_
                refine hx_iast hx hb hK hS (Or.inr ⟨21, by decide, rfl⟩) 0 (hI.2 21 (by decide)) rfl (show vp_in (nI (13 * a + b)) 169 from vp_in_nI (n := 13 * a + b) (by omega) (by decide)) d_Md_common_51 (fun H locs hat hz ho hS => ?_)
                replace hI : md_I D cs H x g i (updA F3 21 (13 * a + b) (0)) := md_I.puta hI hsep (by decide) (by rw [show ((nI (13 * a + b)) : Int32).toNatClampNeg = 13 * a + b from nI_clamp (n := 13 * a + b) (by omega)] at hat; exact hat) ho
                refine lv_goto (tgt := 158) hx hb d_Md_common_52 (by decide) ?_
                refine lv_iinc (v := (nI (b + 1))) (lv' := [(4, .int (nI (b + 1))), (5, .int (nI (13 * a + b))), (0, .ref x), (1, .int (nI v)), (2, .int (nI w)), (3, .int (nI a))]) hx hb d_Md_common_158 hl (k := 5) rfl (nI_1 b) (by decide) rfl (fun ls hl => ?_)
                refine lv_goto (tgt := 15) hx hb d_Md_common_161 (by decide) ?_
                obtain ⟨p1, p2⟩ := row_put (lw := ln w) hw12 (by omega) (show 0 = nI ((lcs (tx9 f v) (tx9 f w)) a b) by subst c36; rfl) hR3 hC3
                exact ih15  _ (b + 1) (by omega) (by omega) (fun q hq => (updA_ne hq).trans (hF3 q hq)) (by rw [updA_self]; exact p1) (by rw [updA_self]; exact p2) _ _ hI hS ls (lv_sub hl [2, 3, 4, 5, 0] rfl)
              · skip
                replace c36 : ¬ (a = 0) := fun z9 => c36 ((nI_eq (a := a) (b := 0) (by omega) (by omega)).mpr z9)
                refine lv_iload hx hb d_Md_common_39 (lv_at hl 5 rfl) ?_
                refine lv_if_ne (x := (nI b)) (tgt := 55) hx hb d_Md_common_41 (by decide) (fun c41 => ?_) (fun c41 => ?_)
                · skip
                  replace c41 : ¬ (b = 0) := fun z9 => c41 ((nI_eq (a := b) (b := 0) (by omega) (by omega)).mpr z9)
                  refine lv_aload_n hx hb d_Md_common_55 rfl (lv_at hl 1 rfl) ?_
                  refine hx_get (v := .ref (g 3)) hx hb htg iMd hown hK hI.1 rfl 6 (by decide) (htg _ (gw_mem (i := 1004) (by decide +kernel) rfl)) (fun _ h9 => h9) rfl d_Md_common_56 ?_
                  refine lv_bipush (v := 12) hx hb d_Md_common_59 (by decide) ?_
                  refine lv_iload_n hx hb d_Md_common_61 rfl (lv_at hl 2 rfl) ?_
                  refine lv_imul (x := 12) (y := (nI v)) hx hb d_Md_common_62 ?_
                  refine lv_eqi (y := (nI (12 * v))) (pk_mul 12 v) ?_
                  refine lv_iload_n hx hb d_Md_common_63 rfl (lv_at hl 4 rfl) ?_
                  refine lv_iadd (x := (nI (12 * v))) (y := (nI a)) hx hb d_Md_common_64 ?_
                  refine lv_eqi (y := (nI (12 * v + a))) (nI_add (12 * v) a) ?_
                  refine lv_iconst (v := 1) hx hb d_Md_common_65 (by decide) ?_
                  refine lv_isub (x := (nI (12 * v + a))) (y := 1) hx hb d_Md_common_66 ?_
                  refine lv_eqi (y := (nI (12 * v + a - 1))) (pk_sub (a := 12 * v + a) (b := 1) (by omega)) ?_
                  refine hx_iald hx hb hK 0 (hI.2 3 (by decide)) rfl (show vp_in (nI (12 * v + a - 1)) 1152 from vp_in_nI (n := 12 * v + a - 1) (by omega) (by decide)) d_Md_common_67 ?_
                  refine lv_eqi (y := (F3 3 (12 * v + a - 1))) (show F3 3 (nI (12 * v + a - 1)).toNatClampNeg = _ by rw [nI_clamp (by omega)]) ?_
                  refine lv_eqi (y := (f 3 (12 * v + (a - 1)))) (by rw [hF3 3 (by decide), show 12 * v + a - 1 = 12 * v + (a - 1) by omega]) ?_
                  refine lv_aload_n hx hb d_Md_common_68 rfl (lv_at hl 1 rfl) ?_
                  refine hx_get (v := .ref (g 3)) hx hb htg iMd hown hK hI.1 rfl 6 (by decide) (htg _ (gw_mem (i := 1004) (by decide +kernel) rfl)) (fun _ h9 => h9) rfl d_Md_common_69 ?_
                  refine lv_bipush (v := 12) hx hb d_Md_common_72 (by decide) ?_
                  refine lv_iload_n hx hb d_Md_common_74 rfl (lv_at hl 3 rfl) ?_
                  refine lv_imul (x := 12) (y := (nI w)) hx hb d_Md_common_75 ?_
                  refine lv_eqi (y := (nI (12 * w))) (pk_mul 12 w) ?_
                  refine lv_iload hx hb d_Md_common_76 (lv_at hl 5 rfl) ?_
                  refine lv_iadd (x := (nI (12 * w))) (y := (nI b)) hx hb d_Md_common_78 ?_
                  refine lv_eqi (y := (nI (12 * w + b))) (nI_add (12 * w) b) ?_
                  refine lv_iconst (v := 1) hx hb d_Md_common_79 (by decide) ?_
                  refine lv_isub (x := (nI (12 * w + b))) (y := 1) hx hb d_Md_common_80 ?_
                  refine lv_eqi (y := (nI (12 * w + b - 1))) (pk_sub (a := 12 * w + b) (b := 1) (by omega)) ?_
                  refine hx_iald hx hb hK 0 (hI.2 3 (by decide)) rfl (show vp_in (nI (12 * w + b - 1)) 1152 from vp_in_nI (n := 12 * w + b - 1) (by omega) (by decide)) d_Md_common_81 ?_
                  refine lv_eqi (y := (F3 3 (12 * w + b - 1))) (show F3 3 (nI (12 * w + b - 1)).toNatClampNeg = _ by rw [nI_clamp (by omega)]) ?_
                  refine lv_eqi (y := (f 3 (12 * w + (b - 1)))) (by rw [hF3 3 (by decide), show 12 * w + b - 1 = 12 * w + (b - 1) by omega]) ?_
                  refine lv_icmp_ne (x := (f 3 (12 * v + (a - 1)))) (y := (f 3 (12 * w + (b - 1)))) (tgt := 107) hx hb d_Md_common_82 (by decide) (fun c82 => ?_) (fun c82 => ?_)
                  · skip
                    refine lv_aload_n hx hb d_Md_common_107 rfl (lv_at hl 1 rfl) ?_
                    refine hx_get (v := .ref (g 21)) hx hb htg iMd hown hK hI.1 rfl 27 (by decide) (htg _ (gw_mem (i := 1025) (by decide +kernel) rfl)) (fun _ h9 => h9) rfl d_Md_common_108 ?_
                    refine lv_iload hx hb d_Md_common_111 (lv_at hl 0 rfl) ?_
                    refine lv_aload_n hx hb d_Md_common_113 rfl (lv_at hl 1 rfl) ?_
                    refine hx_get (v := .ref (g 21)) hx hb htg iMd hown hK hI.1 rfl 27 (by decide) (htg _ (gw_mem (i := 1025) (by decide +kernel) rfl)) (fun _ h9 => h9) rfl d_Md_common_114 ?_
                    refine lv_iload hx hb d_Md_common_117 (lv_at hl 0 rfl) ?_
                    refine lv_bipush (v := 13) hx hb d_Md_common_119 (by decide) ?_
                    refine lv_isub (x := (nI (13 * a + b))) (y := 13) hx hb d_Md_common_121 ?_
                    refine lv_eqi (y := (nI (13 * a + b - 13))) (pk_sub (a := 13 * a + b) (b := 13) (by omega)) ?_
                    refine hx_iald hx hb hK 0 (hI.2 21 (by decide)) rfl (show vp_in (nI (13 * a + b - 13)) 169 from vp_in_nI (n := 13 * a + b - 13) (by omega) (by decide)) d_Md_common_122 ?_
                    refine lv_eqi (y := (F3 21 (13 * a + b - 13))) (show F3 21 (nI (13 * a + b - 13)).toNatClampNeg = _ by rw [nI_clamp (by omega)]) ?_
                    refine lv_eqi (y := (nI ((lcs (tx9 f v) (tx9 f w)) (a - 1) b))) (by rw [show 13 * a + b - 13 = 13 * (a - 1) + b by omega]; exact hR3 (a - 1) b (by omega) (by omega)) ?_
                    refine lv_aload_n hx hb d_Md_common_123 rfl (lv_at hl 1 rfl) ?_
                    refine hx_get (v := .ref (g 21)) hx hb htg iMd hown hK hI.1 rfl 27 (by decide) (htg _ (gw_mem (i := 1025) (by decide +kernel) rfl)) (fun _ h9 => h9) rfl d_Md_common_124 ?_
                    refine lv_iload hx hb d_Md_common_127 (lv_at hl 0 rfl) ?_
                    refine lv_iconst (v := 1) hx hb d_Md_common_129 (by decide) ?_
                    refine lv_isub (x := (nI (13 * a + b))) (y := 1) hx hb d_Md_common_130 ?_
                    refine lv_eqi (y := (nI (13 * a + b - 1))) (pk_sub (a := 13 * a + b) (b := 1) (by omega)) ?_
                    refine hx_iald hx hb hK 0 (hI.2 21 (by decide)) rfl (show vp_in (nI (13 * a + b - 1)) 169 from vp_in_nI (n := 13 * a + b - 1) (by omega) (by decide)) d_Md_common_131 ?_
                    refine lv_eqi (y := (F3 21 (13 * a + b - 1))) (show F3 21 (nI (13 * a + b - 1)).toNatClampNeg = _ by rw [nI_clamp (by omega)]) ?_
                    refine lv_eqi (y := (nI ((lcs (tx9 f v) (tx9 f w)) a (b - 1)))) (by rw [show 13 * a + b - 1 = 13 * a + (b - 1) by omega]; exact hC3 (b - 1) (by omega)) ?_
                    have hl1 := lcs_le (tx9 f v) (tx9 f w) (a - 1) b
                    have hl2 := lcs_le (tx9 f v) (tx9 f w) a (b - 1)
                    refine lv_icmp_le (x := (nI ((lcs (tx9 f v) (tx9 f w)) (a - 1) b))) (y := (nI ((lcs (tx9 f v) (tx9 f w)) a (b - 1)))) (tgt := 148) hx hb d_Md_common_132 (by decide) (fun c132 => ?_) (fun c132 => ?_)
                    · skip
                      replace c132 : ((lcs (tx9 f v) (tx9 f w)) (a - 1) b) ≤ ((lcs (tx9 f v) (tx9 f w)) a (b - 1)) := (nI_leI (a := ((lcs (tx9 f v) (tx9 f w)) (a - 1) b)) (b := ((lcs (tx9 f v) (tx9 f w)) a (b - 1))) (by omega) (by omega)).mp c132
                      refine lv_aload_n hx hb d_Md_common_148 rfl (lv_at hl 1 rfl) ?_
                      refine hx_get (v := .ref (g 21)) hx hb htg iMd hown hK hI.1 rfl 27 (by decide) (htg _ (gw_mem (i := 1025) (by decide +kernel) rfl)) (fun _ h9 => h9) rfl d_Md_common_149 ?_
                      refine lv_iload hx hb d_Md_common_152 (lv_at hl 0 rfl) ?_
                      refine lv_iconst (v := 1) hx hb d_Md_common_154 (by decide) ?_
                      refine lv_isub (x := (nI (13 * a + b))) (y := 1) hx hb d_Md_common_155 ?_
                      refine lv_eqi (y := (nI (13 * a + b - 1))) (pk_sub (a := 13 * a + b) (b := 1) (by omega)) ?_
                      refine hx_iald hx hb hK 0 (hI.2 21 (by decide)) rfl (show vp_in (nI (13 * a + b - 1)) 169 from vp_in_nI (n := 13 * a + b - 1) (by omega) (by decide)) d_Md_common_156 ?_
                      refine lv_eqi (y := (F3 21 (13 * a + b - 1))) (show F3 21 (nI (13 * a + b - 1)).toNatClampNeg = _ by rw [nI_clamp (by omega)]) ?_
                      refine lv_eqi (y := (nI ((lcs (tx9 f v) (tx9 f w)) a (b - 1)))) (by rw [show 13 * a + b - 1 = 13 * a + (b - 1) by omega]; exact hC3 (b - 1) (by omega)) ?_
                      refine hx_iast hx hb hK hS (Or.inr ⟨21, by decide, rfl⟩) 0 (hI.2 21 (by decide)) rfl (show vp_in (nI (13 * a + b)) 169 from vp_in_nI (n := 13 * a + b) (by omega) (by decide)) d_Md_common_157 (fun H locs hat hz ho hS => ?_)
                      replace hI : md_I D cs H x g i (updA F3 21 (13 * a + b) ((nI ((lcs (tx9 f v) (tx9 f w)) a (b - 1))))) := md_I.puta hI hsep (by decide) (by rw [show ((nI (13 * a + b)) : Int32).toNatClampNeg = 13 * a + b from nI_clamp (n := 13 * a + b) (by omega)] at hat; exact hat) ho
                      refine lv_iinc (v := (nI (b + 1))) (lv' := [(4, .int (nI (b + 1))), (5, .int (nI (13 * a + b))), (0, .ref x), (1, .int (nI v)), (2, .int (nI w)), (3, .int (nI a))]) hx hb d_Md_common_158 hl (k := 5) rfl (nI_1 b) (by decide) rfl (fun ls hl => ?_)
                      refine lv_goto (tgt := 15) hx hb d_Md_common_161 (by decide) ?_
                      obtain ⟨p1, p2⟩ := row_put (lw := ln w) hw12 (by omega) (show (nI ((lcs (tx9 f v) (tx9 f w)) a (b - 1))) = nI ((lcs (tx9 f v) (tx9 f w)) a b) by rw [lcs_step (s := tx9 f v) (t := tx9 f w) (a := a) (b := b) (by omega) (by omega), if_neg c82, if_neg (by omega)]) hR3 hC3
                      exact ih15  _ (b + 1) (by omega) (by omega) (fun q hq => (updA_ne hq).trans (hF3 q hq)) (by rw [updA_self]; exact p1) (by rw [updA_self]; exact p2) _ _ hI hS ls (lv_sub hl [2, 3, 4, 5, 0] rfl)
                    · skip
                      replace c132 : ¬ (((lcs (tx9 f v) (tx9 f w)) (a - 1) b) ≤ ((lcs (tx9 f v) (tx9 f w)) a (b - 1))) := fun z9 => c132 ((nI_leI (a := ((lcs (tx9 f v) (tx9 f w)) (a - 1) b)) (b := ((lcs (tx9 f v) (tx9 f w)) a (b - 1))) (by omega) (by omega)).mpr z9)
                      refine lv_aload_n hx hb d_Md_common_135 rfl (lv_at hl 1 rfl) ?_
                      refine hx_get (v := .ref (g 21)) hx hb htg iMd hown hK hI.1 rfl 27 (by decide) (htg _ (gw_mem (i := 1025) (by decide +kernel) rfl)) (fun _ h9 => h9) rfl d_Md_common_136 ?_
                      refine lv_iload hx hb d_Md_common_139 (lv_at hl 0 rfl) ?_
                      refine lv_bipush (v := 13) hx hb d_Md_common_141 (by decide) ?_
                      refine lv_isub (x := (nI (13 * a + b))) (y := 13) hx hb d_Md_common_143 ?_
                      refine lv_eqi (y := (nI (13 * a + b - 13))) (pk_sub (a := 13 * a + b) (b := 13) (by omega)) ?_
                      refine hx_iald hx hb hK 0 (hI.2 21 (by decide)) rfl (show vp_in (nI (13 * a + b - 13)) 169 from vp_in_nI (n := 13 * a + b - 13) (by omega) (by decide)) d_Md_common_144 ?_
                      refine lv_eqi (y := (F3 21 (13 * a + b - 13))) (show F3 21 (nI (13 * a + b - 13)).toNatClampNeg = _ by rw [nI_clamp (by omega)]) ?_
                      refine lv_eqi (y := (nI ((lcs (tx9 f v) (tx9 f w)) (a - 1) b))) (by rw [show 13 * a + b - 13 = 13 * (a - 1) + b by omega]; exact hR3 (a - 1) b (by omega) (by omega)) ?_
                      refine lv_goto (tgt := 157) hx hb d_Md_common_145 (by decide) ?_
                      refine hx_iast hx hb hK hS (Or.inr ⟨21, by decide, rfl⟩) 0 (hI.2 21 (by decide)) rfl (show vp_in (nI (13 * a + b)) 169 from vp_in_nI (n := 13 * a + b) (by omega) (by decide)) d_Md_common_157 (fun H locs hat hz ho hS => ?_)
                      replace hI : md_I D cs H x g i (updA F3 21 (13 * a + b) ((nI ((lcs (tx9 f v) (tx9 f w)) (a - 1) b)))) := md_I.puta hI hsep (by decide) (by rw [show ((nI (13 * a + b)) : Int32).toNatClampNeg = 13 * a + b from nI_clamp (n := 13 * a + b) (by omega)] at hat; exact hat) ho
                      refine lv_iinc (v := (nI (b + 1))) (lv' := [(4, .int (nI (b + 1))), (5, .int (nI (13 * a + b))), (0, .ref x), (1, .int (nI v)), (2, .int (nI w)), (3, .int (nI a))]) hx hb d_Md_common_158 hl (k := 5) rfl (nI_1 b) (by decide) rfl (fun ls hl => ?_)
                      refine lv_goto (tgt := 15) hx hb d_Md_common_161 (by decide) ?_
                      obtain ⟨p1, p2⟩ := row_put (lw := ln w) hw12 (by omega) (show (nI ((lcs (tx9 f v) (tx9 f w)) (a - 1) b)) = nI ((lcs (tx9 f v) (tx9 f w)) a b) by rw [lcs_step (s := tx9 f v) (t := tx9 f w) (a := a) (b := b) (by omega) (by omega), if_neg c82, if_pos (by omega)]) hR3 hC3
                      exact ih15  _ (b + 1) (by omega) (by omega) (fun q hq => (updA_ne hq).trans (hF3 q hq)) (by rw [updA_self]; exact p1) (by rw [updA_self]; exact p2) _ _ hI hS ls (lv_sub hl [2, 3, 4, 5, 0] rfl)
                  · skip
                    refine lv_aload_n hx hb d_Md_common_85 rfl (lv_at hl 1 rfl) ?_
                    refine hx_get (v := .ref (g 21)) hx hb htg iMd hown hK hI.1 rfl 27 (by decide) (htg _ (gw_mem (i := 1025) (by decide +kernel) rfl)) (fun _ h9 => h9) rfl d_Md_common_86 ?_
                    refine lv_iload hx hb d_Md_common_89 (lv_at hl 0 rfl) ?_
                    refine lv_aload_n hx hb d_Md_common_91 rfl (lv_at hl 1 rfl) ?_
                    refine hx_get (v := .ref (g 21)) hx hb htg iMd hown hK hI.1 rfl 27 (by decide) (htg _ (gw_mem (i := 1025) (by decide +kernel) rfl)) (fun _ h9 => h9) rfl d_Md_common_92 ?_
                    refine lv_iload hx hb d_Md_common_95 (lv_at hl 0 rfl) ?_
                    refine lv_bipush (v := 14) hx hb d_Md_common_97 (by decide) ?_
                    refine lv_isub (x := (nI (13 * a + b))) (y := 14) hx hb d_Md_common_99 ?_
                    refine lv_eqi (y := (nI (13 * a + b - 14))) (pk_sub (a := 13 * a + b) (b := 14) (by omega)) ?_
                    refine hx_iald hx hb hK 0 (hI.2 21 (by decide)) rfl (show vp_in (nI (13 * a + b - 14)) 169 from vp_in_nI (n := 13 * a + b - 14) (by omega) (by decide)) d_Md_common_100 ?_
                    refine lv_eqi (y := (F3 21 (13 * a + b - 14))) (show F3 21 (nI (13 * a + b - 14)).toNatClampNeg = _ by rw [nI_clamp (by omega)]) ?_
                    refine lv_eqi (y := (nI ((lcs (tx9 f v) (tx9 f w)) (a - 1) (b - 1)))) (by rw [show 13 * a + b - 14 = 13 * (a - 1) + (b - 1) by omega]; exact hR3 (a - 1) (b - 1) (by omega) (by omega)) ?_
                    refine lv_iconst (v := 1) hx hb d_Md_common_101 (by decide) ?_
                    refine lv_iadd (x := (nI ((lcs (tx9 f v) (tx9 f w)) (a - 1) (b - 1)))) (y := 1) hx hb d_Md_common_102 ?_
                    refine lv_eqi (y := (nI ((lcs (tx9 f v) (tx9 f w)) (a - 1) (b - 1) + 1))) (nI_add ((lcs (tx9 f v) (tx9 f w)) (a - 1) (b - 1)) 1) ?_
                    refine hx_iast hx hb hK hS (Or.inr ⟨21, by decide, rfl⟩) 0 (hI.2 21 (by decide)) rfl (show vp_in (nI (13 * a + b)) 169 from vp_in_nI (n := 13 * a + b) (by omega) (by decide)) d_Md_common_103 (fun H locs hat hz ho hS => ?_)
                    replace hI : md_I D cs H x g i (updA F3 21 (13 * a + b) ((nI ((lcs (tx9 f v) (tx9 f w)) (a - 1) (b - 1) + 1)))) := md_I.puta hI hsep (by decide) (by rw [show ((nI (13 * a + b)) : Int32).toNatClampNeg = 13 * a + b from nI_clamp (n := 13 * a + b) (by omega)] at hat; exact hat) ho
                    refine lv_goto (tgt := 158) hx hb d_Md_common_104 (by decide) ?_
                    refine lv_iinc (v := (nI (b + 1))) (lv' := [(4, .int (nI (b + 1))), (5, .int (nI (13 * a + b))), (0, .ref x), (1, .int (nI v)), (2, .int (nI w)), (3, .int (nI a))]) hx hb d_Md_common_158 hl (k := 5) rfl (nI_1 b) (by decide) rfl (fun ls hl => ?_)
                    refine lv_goto (tgt := 15) hx hb d_Md_common_161 (by decide) ?_
                    obtain ⟨p1, p2⟩ := row_put (lw := ln w) hw12 (by omega) (show (nI ((lcs (tx9 f v) (tx9 f w)) (a - 1) (b - 1) + 1)) = nI ((lcs (tx9 f v) (tx9 f w)) a b) by rw [lcs_step (s := tx9 f v) (t := tx9 f w) (a := a) (b := b) (by omega) (by omega), if_pos c82]) hR3 hC3
                    exact ih15  _ (b + 1) (by omega) (by omega) (fun q hq => (updA_ne hq).trans (hF3 q hq)) (by rw [updA_self]; exact p1) (by rw [updA_self]; exact p2) _ _ hI hS ls (lv_sub hl [2, 3, 4, 5, 0] rfl)
                · skip
                  replace c41 : b = 0 := (nI_eq (a := b) (b := 0) (by omega) (by omega)).mp c41
                  refine lv_aload_n hx hb d_Md_common_44 rfl (lv_at hl 1 rfl) ?_
                  refine hx_get (v := .ref (g 21)) hx hb htg iMd hown hK hI.1 rfl 27 (by decide) (htg _ (gw_mem (i := 1025) (by decide +kernel) rfl)) (fun _ h9 => h9) rfl d_Md_common_45 ?_
                  refine lv_iload hx hb d_Md_common_48 (lv_at hl 0 rfl) ?_
                  refine lv_iconst (v := 0) hx hb d_Md_common_50 (by decide) ?_
                  refine hx_iast hx hb hK hS (Or.inr ⟨21, by decide, rfl⟩) 0 (hI.2 21 (by decide)) rfl (show vp_in (nI (13 * a + b)) 169 from vp_in_nI (n := 13 * a + b) (by omega) (by decide)) d_Md_common_51 (fun H locs hat hz ho hS => ?_)
                  replace hI : md_I D cs H x g i (updA F3 21 (13 * a + b) (0)) := md_I.puta hI hsep (by decide) (by rw [show ((nI (13 * a + b)) : Int32).toNatClampNeg = 13 * a + b from nI_clamp (n := 13 * a + b) (by omega)] at hat; exact hat) ho
                  refine lv_goto (tgt := 158) hx hb d_Md_common_52 (by decide) ?_
                  refine lv_iinc (v := (nI (b + 1))) (lv' := [(4, .int (nI (b + 1))), (5, .int (nI (13 * a + b))), (0, .ref x), (1, .int (nI v)), (2, .int (nI w)), (3, .int (nI a))]) hx hb d_Md_common_158 hl (k := 5) rfl (nI_1 b) (by decide) rfl (fun ls hl => ?_)
                  refine lv_goto (tgt := 15) hx hb d_Md_common_161 (by decide) ?_
                  obtain ⟨p1, p2⟩ := row_put (lw := ln w) hw12 (by omega) (show 0 = nI ((lcs (tx9 f v) (tx9 f w)) a b) by subst c41; rw [lcs_0]; rfl) hR3 hC3
                  exact ih15  _ (b + 1) (by omega) (by omega) (fun q hq => (updA_ne hq).trans (hF3 q hq)) (by rw [updA_self]; exact p1) (by rw [updA_self]; exact p2) _ _ hI hS ls (lv_sub hl [2, 3, 4, 5, 0] rfl)
        exact loop15 ((ln w + 1 - 0) + 1) _ 0 (Nat.lt_succ_self _) (Nat.zero_le _) hF2 hR2 (fun c hc => absurd hc (Nat.not_lt_zero c)) _ _ hI hS ls (lv_sub hl [1, 2, 3, 4, 0] rfl)
  exact loop2 ((ln v + 1 - 0) + 1) f 0 (Nat.lt_succ_self _) (Nat.zero_le _) (fun _ _ => rfl) (fun p c hp => absurd hp (Nat.not_lt_zero p)) _ _ hI hS ls (lv_sub hl [1, 2, 3, 0] rfl)
end
section
def ptsV (f : Nat → Nat → Int32) (ln : Nat → Nat) (v w : Nat) : Nat := 20 * lcsV f ln v w / (ln v + ln w)
def mxTo (P : Nat → Nat) (b0 : Nat) : Nat → Nat
  | 0 => b0
  | k + 1 => if mxTo P b0 k < P k then P k else mxTo P b0 k
def ptP (f : Nat → Nat → Int32) (ln : Nat → Nat) (a b j : Nat) : Nat → Nat := fun k => ptsV f ln (4 * a + j) (4 * b + k)
def mx2 (f : Nat → Nat → Int32) (ln mn : Nat → Nat) (a b : Nat) : Nat → Nat
  | 0 => 0
  | j + 1 => mxTo (ptP f ln a b j) (mx2 f ln mn a b j) (mn b)
def samP (f : Nat → Nat → Int32) (a b j : Nat) : Nat → Bool := fun k => decide (f 4 (4 * a + j) = f 4 (4 * b + k))
def samB (f : Nat → Nat → Int32) (mn : Nat → Nat) (a b : Nat) : Bool := anyTo (fun j => anyTo (samP f a b j) (mn b)) (mn a)
def datB (f : Nat → Nat → Int32) (a b : Nat) : Bool := !decide (f 8 a = -1) && !decide (f 8 b = -1)
def togB (f : Nat → Nat → Int32) (a b : Nat) : Bool := datB f a b && !decide (f 8 b < f 7 a) && !decide (f 8 a < f 7 b)
def likeV (f : Nat → Nat → Int32) (ln mn : Nat → Nat) (a b : Nat) : Int32 := nI (mx2 f ln mn a b (mn a)) + (if samB f mn a b = true then 2 else 0) + (if togB f a b = true then 3 else if datB f a b = true then -5 else 0)
theorem ptsV_le {f : Nat → Nat → Int32} {ln : Nat → Nat} {v w : Nat} (h : ln w ≤ 12) : ptsV f ln v w ≤ 240 := by
  have h1 := lcsV_le (f := f) (ln := ln) (v := v) h
  exact Nat.le_trans (Nat.div_le_self _ _) (by omega)
def wfV (f : Nat → Nat → Int32) (mn ln : Nat → Nat) : Prop := (∀ a, a < 24 → f 1 a = nI (mn a) ∧ mn a ≤ 4) ∧ (∀ v, v < 96 → f 2 v = nI (ln v) ∧ ln v ≤ 12) ∧ ∀ a j, a < 24 → j < mn a → 1 ≤ ln (4 * a + j)
def agr (F f : Nat → Nat → Int32) : Prop := F 1 = f 1 ∧ F 2 = f 2 ∧ F 3 = f 3 ∧ F 4 = f 4 ∧ F 7 = f 7 ∧ F 8 = f 8
theorem agr.rf (f : Nat → Nat → Int32) : agr f f := ⟨rfl, rfl, rfl, rfl, rfl, rfl⟩
theorem agr.wf {F f : Nat → Nat → Int32} {mn ln : Nat → Nat} (h : agr F f) (w : wfV f mn ln) : wfV F mn ln := ⟨fun a ha => by rw [h.1]; exact w.1 a ha, fun v hv => by rw [h.2.1]; exact w.2.1 v hv, w.2.2⟩
theorem agr.lcs {F f : Nat → Nat → Int32} {ln : Nat → Nat} {v w : Nat} (h : agr F f) : lcsV F ln v w = lcsV f ln v w := by unfold lcsV tx9; rw [h.2.2.1]
theorem agr.mx2 {F f : Nat → Nat → Int32} {ln mn : Nat → Nat} {a b : Nat} (h : agr F f) : ∀ j, mx2 F ln mn a b j = mx2 f ln mn a b j := by
  have e : ∀ j, ptP F ln a b j = ptP f ln a b j := fun j => by funext k; unfold ptP ptsV; rw [h.lcs]
  intro j
  induction j with
  | zero => rfl
  | succ j ih => show mxTo _ _ _ = mxTo _ _ _; rw [e, ih]
theorem agr.like {F f : Nat → Nat → Int32} {ln mn : Nat → Nat} {a b : Nat} (h : agr F f) : likeV F ln mn a b = likeV f ln mn a b := by
  unfold likeV samB togB datB
  have e : ∀ j, samP F a b j = samP f a b j := fun j => by funext k; unfold samP; rw [h.2.2.2.1]
  simp only [e]
  rw [h.mx2, h.2.2.2.2.1, h.2.2.2.2.2]
theorem agr.of21 {F f : Nat → Nat → Int32} (h : ∀ q, q ≠ 21 → F q = f q) : agr F f := ⟨h 1 (by decide), h 2 (by decide), h 3 (by decide), h 4 (by decide), h 7 (by decide), h 8 (by decide)⟩
def y_Md_likeness : MethodName := ⟨"NameMergesModel", "likeness", "(II)I"⟩
abbrev w_Md_likeness : List Cond := Cond.code y_Md_likeness prog_7_method_12_code 8 (Option.some Jvm.ClassFile.FieldType.int) :: gw
theorem d_Md_likeness_0 : decode prog_7_method_12_code 0 = .ok (.iconst 0, 1) := by decide +kernel
theorem d_Md_likeness_1 : decode prog_7_method_12_code 1 = .ok (.istore_n 3, 1) := by decide +kernel
theorem d_Md_likeness_2 : decode prog_7_method_12_code 2 = .ok (.iconst 0, 1) := by decide +kernel
theorem d_Md_likeness_3 : decode prog_7_method_12_code 3 = .ok (.istore 4, 2) := by decide +kernel
theorem d_Md_likeness_5 : decode prog_7_method_12_code 5 = .ok (.iconst 4, 1) := by decide +kernel
theorem d_Md_likeness_6 : decode prog_7_method_12_code 6 = .ok (.iload_n 1, 1) := by decide +kernel
theorem d_Md_likeness_7 : decode prog_7_method_12_code 7 = .ok (.imul, 1) := by decide +kernel
theorem d_Md_likeness_8 : decode prog_7_method_12_code 8 = .ok (.istore 5, 2) := by decide +kernel
theorem d_Md_likeness_10 : decode prog_7_method_12_code 10 = .ok (.iload 5, 2) := by decide +kernel
theorem d_Md_likeness_12 : decode prog_7_method_12_code 12 = .ok (.iconst 4, 1) := by decide +kernel
theorem d_Md_likeness_13 : decode prog_7_method_12_code 13 = .ok (.iload_n 1, 1) := by decide +kernel
theorem d_Md_likeness_14 : decode prog_7_method_12_code 14 = .ok (.imul, 1) := by decide +kernel
theorem d_Md_likeness_15 : decode prog_7_method_12_code 15 = .ok (.aload_n 0, 1) := by decide +kernel
theorem d_Md_likeness_16 : decode prog_7_method_12_code 16 = .ok (.getfield 13, 3) := by decide +kernel
theorem d_Md_likeness_19 : decode prog_7_method_12_code 19 = .ok (.iload_n 1, 1) := by decide +kernel
theorem d_Md_likeness_20 : decode prog_7_method_12_code 20 = .ok (.iaload, 1) := by decide +kernel
theorem d_Md_likeness_21 : decode prog_7_method_12_code 21 = .ok (.iadd, 1) := by decide +kernel
theorem d_Md_likeness_22 : decode prog_7_method_12_code 22 = .ok (.if_icmp .ge 106, 3) := by decide +kernel
theorem d_Md_likeness_25 : decode prog_7_method_12_code 25 = .ok (.iconst 4, 1) := by decide +kernel
theorem d_Md_likeness_26 : decode prog_7_method_12_code 26 = .ok (.iload_n 2, 1) := by decide +kernel
theorem d_Md_likeness_27 : decode prog_7_method_12_code 27 = .ok (.imul, 1) := by decide +kernel
theorem d_Md_likeness_28 : decode prog_7_method_12_code 28 = .ok (.istore 6, 2) := by decide +kernel
theorem d_Md_likeness_30 : decode prog_7_method_12_code 30 = .ok (.iload 6, 2) := by decide +kernel
theorem d_Md_likeness_32 : decode prog_7_method_12_code 32 = .ok (.iconst 4, 1) := by decide +kernel
theorem d_Md_likeness_33 : decode prog_7_method_12_code 33 = .ok (.iload_n 2, 1) := by decide +kernel
theorem d_Md_likeness_34 : decode prog_7_method_12_code 34 = .ok (.imul, 1) := by decide +kernel
theorem d_Md_likeness_35 : decode prog_7_method_12_code 35 = .ok (.aload_n 0, 1) := by decide +kernel
theorem d_Md_likeness_36 : decode prog_7_method_12_code 36 = .ok (.getfield 13, 3) := by decide +kernel
theorem d_Md_likeness_39 : decode prog_7_method_12_code 39 = .ok (.iload_n 2, 1) := by decide +kernel
theorem d_Md_likeness_40 : decode prog_7_method_12_code 40 = .ok (.iaload, 1) := by decide +kernel
theorem d_Md_likeness_41 : decode prog_7_method_12_code 41 = .ok (.iadd, 1) := by decide +kernel
theorem d_Md_likeness_42 : decode prog_7_method_12_code 42 = .ok (.if_icmp .ge 80, 3) := by decide +kernel
theorem d_Md_likeness_45 : decode prog_7_method_12_code 45 = .ok (.bipush 20, 2) := by decide +kernel
theorem d_Md_likeness_47 : decode prog_7_method_12_code 47 = .ok (.aload_n 0, 1) := by decide +kernel
theorem d_Md_likeness_48 : decode prog_7_method_12_code 48 = .ok (.iload 5, 2) := by decide +kernel
theorem d_Md_likeness_50 : decode prog_7_method_12_code 50 = .ok (.iload 6, 2) := by decide +kernel
theorem d_Md_likeness_52 : decode prog_7_method_12_code 52 = .ok (.invokevirtual 99, 3) := by decide +kernel
theorem d_Md_likeness_55 : decode prog_7_method_12_code 55 = .ok (.imul, 1) := by decide +kernel
theorem d_Md_likeness_56 : decode prog_7_method_12_code 56 = .ok (.aload_n 0, 1) := by decide +kernel
theorem d_Md_likeness_57 : decode prog_7_method_12_code 57 = .ok (.getfield 16, 3) := by decide +kernel
theorem d_Md_likeness_60 : decode prog_7_method_12_code 60 = .ok (.iload 5, 2) := by decide +kernel
theorem d_Md_likeness_62 : decode prog_7_method_12_code 62 = .ok (.iaload, 1) := by decide +kernel
theorem d_Md_likeness_63 : decode prog_7_method_12_code 63 = .ok (.aload_n 0, 1) := by decide +kernel
theorem d_Md_likeness_64 : decode prog_7_method_12_code 64 = .ok (.getfield 16, 3) := by decide +kernel
theorem d_Md_likeness_67 : decode prog_7_method_12_code 67 = .ok (.iload 6, 2) := by decide +kernel
theorem d_Md_likeness_69 : decode prog_7_method_12_code 69 = .ok (.iaload, 1) := by decide +kernel
theorem d_Md_likeness_70 : decode prog_7_method_12_code 70 = .ok (.iadd, 1) := by decide +kernel
theorem d_Md_likeness_71 : decode prog_7_method_12_code 71 = .ok (.idiv, 1) := by decide +kernel
theorem d_Md_likeness_72 : decode prog_7_method_12_code 72 = .ok (.istore 7, 2) := by decide +kernel
theorem d_Md_likeness_74 : decode prog_7_method_12_code 74 = .ok (.iload 7, 2) := by decide +kernel
theorem d_Md_likeness_76 : decode prog_7_method_12_code 76 = .ok (.iload_n 3, 1) := by decide +kernel
theorem d_Md_likeness_77 : decode prog_7_method_12_code 77 = .ok (.if_icmp .le 8, 3) := by decide +kernel
theorem d_Md_likeness_80 : decode prog_7_method_12_code 80 = .ok (.iload 7, 2) := by decide +kernel
theorem d_Md_likeness_82 : decode prog_7_method_12_code 82 = .ok (.goto 4, 3) := by decide +kernel
theorem d_Md_likeness_85 : decode prog_7_method_12_code 85 = .ok (.iload_n 3, 1) := by decide +kernel
theorem d_Md_likeness_86 : decode prog_7_method_12_code 86 = .ok (.istore_n 3, 1) := by decide +kernel
theorem d_Md_likeness_87 : decode prog_7_method_12_code 87 = .ok (.iload 4, 2) := by decide +kernel
theorem d_Md_likeness_89 : decode prog_7_method_12_code 89 = .ok (.ifCond .ne 20, 3) := by decide +kernel
theorem d_Md_likeness_92 : decode prog_7_method_12_code 92 = .ok (.aload_n 0, 1) := by decide +kernel
theorem d_Md_likeness_93 : decode prog_7_method_12_code 93 = .ok (.getfield 22, 3) := by decide +kernel
theorem d_Md_likeness_96 : decode prog_7_method_12_code 96 = .ok (.iload 5, 2) := by decide +kernel
theorem d_Md_likeness_98 : decode prog_7_method_12_code 98 = .ok (.iaload, 1) := by decide +kernel
theorem d_Md_likeness_99 : decode prog_7_method_12_code 99 = .ok (.aload_n 0, 1) := by decide +kernel
theorem d_Md_likeness_100 : decode prog_7_method_12_code 100 = .ok (.getfield 22, 3) := by decide +kernel
theorem d_Md_likeness_103 : decode prog_7_method_12_code 103 = .ok (.iload 6, 2) := by decide +kernel
theorem d_Md_likeness_105 : decode prog_7_method_12_code 105 = .ok (.iaload, 1) := by decide +kernel
theorem d_Md_likeness_106 : decode prog_7_method_12_code 106 = .ok (.if_icmp .ne 7, 3) := by decide +kernel
theorem d_Md_likeness_109 : decode prog_7_method_12_code 109 = .ok (.iconst 1, 1) := by decide +kernel
theorem d_Md_likeness_110 : decode prog_7_method_12_code 110 = .ok (.goto 4, 3) := by decide +kernel
theorem d_Md_likeness_113 : decode prog_7_method_12_code 113 = .ok (.iconst 0, 1) := by decide +kernel
theorem d_Md_likeness_114 : decode prog_7_method_12_code 114 = .ok (.istore 4, 2) := by decide +kernel
theorem d_Md_likeness_116 : decode prog_7_method_12_code 116 = .ok (.iinc 6 1, 3) := by decide +kernel
theorem d_Md_likeness_119 : decode prog_7_method_12_code 119 = .ok (.goto (-89), 3) := by decide +kernel
theorem d_Md_likeness_122 : decode prog_7_method_12_code 122 = .ok (.iinc 5 1, 3) := by decide +kernel
theorem d_Md_likeness_125 : decode prog_7_method_12_code 125 = .ok (.goto (-115), 3) := by decide +kernel
theorem d_Md_likeness_128 : decode prog_7_method_12_code 128 = .ok (.aload_n 0, 1) := by decide +kernel
theorem d_Md_likeness_129 : decode prog_7_method_12_code 129 = .ok (.getfield 34, 3) := by decide +kernel
theorem d_Md_likeness_132 : decode prog_7_method_12_code 132 = .ok (.iload_n 1, 1) := by decide +kernel
theorem d_Md_likeness_133 : decode prog_7_method_12_code 133 = .ok (.iaload, 1) := by decide +kernel
theorem d_Md_likeness_134 : decode prog_7_method_12_code 134 = .ok (.iconst (-1), 1) := by decide +kernel
theorem d_Md_likeness_135 : decode prog_7_method_12_code 135 = .ok (.if_icmp .eq 17, 3) := by decide +kernel
theorem d_Md_likeness_138 : decode prog_7_method_12_code 138 = .ok (.aload_n 0, 1) := by decide +kernel
theorem d_Md_likeness_139 : decode prog_7_method_12_code 139 = .ok (.getfield 34, 3) := by decide +kernel
theorem d_Md_likeness_142 : decode prog_7_method_12_code 142 = .ok (.iload_n 2, 1) := by decide +kernel
theorem d_Md_likeness_143 : decode prog_7_method_12_code 143 = .ok (.iaload, 1) := by decide +kernel
theorem d_Md_likeness_144 : decode prog_7_method_12_code 144 = .ok (.iconst (-1), 1) := by decide +kernel
theorem d_Md_likeness_145 : decode prog_7_method_12_code 145 = .ok (.if_icmp .eq 7, 3) := by decide +kernel
theorem d_Md_likeness_148 : decode prog_7_method_12_code 148 = .ok (.iconst 1, 1) := by decide +kernel
theorem d_Md_likeness_149 : decode prog_7_method_12_code 149 = .ok (.goto 4, 3) := by decide +kernel
theorem d_Md_likeness_152 : decode prog_7_method_12_code 152 = .ok (.iconst 0, 1) := by decide +kernel
theorem d_Md_likeness_153 : decode prog_7_method_12_code 153 = .ok (.istore 5, 2) := by decide +kernel
theorem d_Md_likeness_155 : decode prog_7_method_12_code 155 = .ok (.iload 5, 2) := by decide +kernel
theorem d_Md_likeness_157 : decode prog_7_method_12_code 157 = .ok (.ifCond .eq 37, 3) := by decide +kernel
theorem d_Md_likeness_160 : decode prog_7_method_12_code 160 = .ok (.aload_n 0, 1) := by decide +kernel
theorem d_Md_likeness_161 : decode prog_7_method_12_code 161 = .ok (.getfield 31, 3) := by decide +kernel
theorem d_Md_likeness_164 : decode prog_7_method_12_code 164 = .ok (.iload_n 1, 1) := by decide +kernel
theorem d_Md_likeness_165 : decode prog_7_method_12_code 165 = .ok (.iaload, 1) := by decide +kernel
theorem d_Md_likeness_166 : decode prog_7_method_12_code 166 = .ok (.aload_n 0, 1) := by decide +kernel
theorem d_Md_likeness_167 : decode prog_7_method_12_code 167 = .ok (.getfield 34, 3) := by decide +kernel
theorem d_Md_likeness_170 : decode prog_7_method_12_code 170 = .ok (.iload_n 2, 1) := by decide +kernel
theorem d_Md_likeness_171 : decode prog_7_method_12_code 171 = .ok (.iaload, 1) := by decide +kernel
theorem d_Md_likeness_172 : decode prog_7_method_12_code 172 = .ok (.if_icmp .gt 22, 3) := by decide +kernel
theorem d_Md_likeness_175 : decode prog_7_method_12_code 175 = .ok (.aload_n 0, 1) := by decide +kernel
theorem d_Md_likeness_176 : decode prog_7_method_12_code 176 = .ok (.getfield 31, 3) := by decide +kernel
theorem d_Md_likeness_179 : decode prog_7_method_12_code 179 = .ok (.iload_n 2, 1) := by decide +kernel
theorem d_Md_likeness_180 : decode prog_7_method_12_code 180 = .ok (.iaload, 1) := by decide +kernel
theorem d_Md_likeness_181 : decode prog_7_method_12_code 181 = .ok (.aload_n 0, 1) := by decide +kernel
theorem d_Md_likeness_182 : decode prog_7_method_12_code 182 = .ok (.getfield 34, 3) := by decide +kernel
theorem d_Md_likeness_185 : decode prog_7_method_12_code 185 = .ok (.iload_n 1, 1) := by decide +kernel
theorem d_Md_likeness_186 : decode prog_7_method_12_code 186 = .ok (.iaload, 1) := by decide +kernel
theorem d_Md_likeness_187 : decode prog_7_method_12_code 187 = .ok (.if_icmp .gt 7, 3) := by decide +kernel
theorem d_Md_likeness_190 : decode prog_7_method_12_code 190 = .ok (.iconst 1, 1) := by decide +kernel
theorem d_Md_likeness_191 : decode prog_7_method_12_code 191 = .ok (.goto 4, 3) := by decide +kernel
theorem d_Md_likeness_194 : decode prog_7_method_12_code 194 = .ok (.iconst 0, 1) := by decide +kernel
theorem d_Md_likeness_195 : decode prog_7_method_12_code 195 = .ok (.istore 6, 2) := by decide +kernel
theorem d_Md_likeness_197 : decode prog_7_method_12_code 197 = .ok (.iload_n 3, 1) := by decide +kernel
theorem d_Md_likeness_198 : decode prog_7_method_12_code 198 = .ok (.iload 4, 2) := by decide +kernel
theorem d_Md_likeness_200 : decode prog_7_method_12_code 200 = .ok (.ifCond .eq 7, 3) := by decide +kernel
theorem d_Md_likeness_203 : decode prog_7_method_12_code 203 = .ok (.iconst 2, 1) := by decide +kernel
theorem d_Md_likeness_204 : decode prog_7_method_12_code 204 = .ok (.goto 4, 3) := by decide +kernel
theorem d_Md_likeness_207 : decode prog_7_method_12_code 207 = .ok (.iconst 0, 1) := by decide +kernel
theorem d_Md_likeness_208 : decode prog_7_method_12_code 208 = .ok (.iadd, 1) := by decide +kernel
theorem d_Md_likeness_209 : decode prog_7_method_12_code 209 = .ok (.iload 6, 2) := by decide +kernel
theorem d_Md_likeness_211 : decode prog_7_method_12_code 211 = .ok (.ifCond .eq 7, 3) := by decide +kernel
theorem d_Md_likeness_214 : decode prog_7_method_12_code 214 = .ok (.iconst 3, 1) := by decide +kernel
theorem d_Md_likeness_215 : decode prog_7_method_12_code 215 = .ok (.goto 14, 3) := by decide +kernel
theorem d_Md_likeness_218 : decode prog_7_method_12_code 218 = .ok (.iload 5, 2) := by decide +kernel
theorem d_Md_likeness_220 : decode prog_7_method_12_code 220 = .ok (.ifCond .eq 8, 3) := by decide +kernel
theorem d_Md_likeness_223 : decode prog_7_method_12_code 223 = .ok (.bipush (-5), 2) := by decide +kernel
theorem d_Md_likeness_225 : decode prog_7_method_12_code 225 = .ok (.goto 4, 3) := by decide +kernel
theorem d_Md_likeness_228 : decode prog_7_method_12_code 228 = .ok (.iconst 0, 1) := by decide +kernel
theorem d_Md_likeness_229 : decode prog_7_method_12_code 229 = .ok (.iadd, 1) := by decide +kernel
theorem d_Md_likeness_230 : decode prog_7_method_12_code 230 = .ok (.ireturn, 1) := by decide +kernel
set_option maxHeartbeats 4000000 in
set_option maxRecDepth 100000 in
theorem c_Md_likeness (l : Launch) (D : va_G) (cs : Nat → ClassId) (N0 : Nat) (H : Heap) (x : Nat) (g : Nat → Nat) (i : Nat → Int32) (f : Nat → Nat → Int32) (a b : Nat) (hsep : md_sep N0 x g) (hI : md_I D cs H x g i f) (mn ln : Nat → Nat) (hV : wfV f mn ln) (ha : a < 24) (hb1 : b < 24) : Met l y_Md_likeness w_Md_likeness ({ frames := 1, cells := 0, slots := 0, locals := 25 }) (hPre D cs N0 [.ref x, .int (nI a), .int (nI b)] H) (hQi (fun r H' => ∃ R : Nat → Int32, md_I D cs H' x g i (setA f 21 R) ∧ r = likeV f ln mn a b) (md_A x g)) 0 0 (md_A x g) := by
  refine Met.ofW (cc := prog_7_method_12_code) (maxL := 8) (ret := (Option.some Jvm.ClassFile.FieldType.int)) (by decide) rfl ?_
  intro p e s m args below meth c s₁ B hml hv
  obtain ⟨rfl, rfl, hB⟩ := hv
  have hx := B.exec
  have hb := B.bytes
  have hr := B.returns
  have hts := atoms_spec (ws := w_Md_likeness) B.pre
  have htg : ∀ w ∈ gw, w.before _ s = true := fun w h => hts w (List.mem_cons_of_mem _ h)
  have hown : s.vm.findClass "NameMergesModel" = some m.cls := findClass_of_methodNamed B.named
  have hlocks := B.notSynchronized
  have hK := hB.1
  have hS : va_S (md_A x g) s.heap s.heap [] := va_S.rf
  obtain ⟨H, hH⟩ : ∃ z : Heap, z = s.heap := ⟨_, rfl⟩
  rw [← hH] at hI
  have hS : va_S (md_A x g) s.heap H [] := by rw [hH]; exact va_S.rf
  have hl := lv_entry ([.ref x, .int (nI a), .int (nI b)]) (n := 8) (Nat.le_of_ble_eq_true rfl)
  rw [lg_entry_eq, ← hH]
  generalize (lg_sl ([.ref x, .int (nI a), .int (nI b)]) ++ List.replicate (8 - (lg_sl ([.ref x, .int (nI a), .int (nI b)])).length) Slot.unset).toArray = ls at hl ⊢
  have hl : lv_has ls 8 [(0, .ref x), (1, .int (nI a)), (2, .int (nI b))] := hl
  have hma := (hV.1 a ha).2
  have hmb := (hV.1 b hb1).2
  refine lv_iconst (v := 0) hx hb d_Md_likeness_0 (by decide) ?_
  refine lv_istore_n (lv' := [(3, .int 0), (0, .ref x), (1, .int (nI a)), (2, .int (nI b))]) hx hb d_Md_likeness_1 rfl hl (by decide) rfl (fun ls hl => ?_)
  refine lv_iconst (v := 0) hx hb d_Md_likeness_2 (by decide) ?_
  refine lv_istore (lv' := [(4, .int 0), (3, .int 0), (0, .ref x), (1, .int (nI a)), (2, .int (nI b))]) hx hb d_Md_likeness_3 hl (by decide) rfl (fun ls hl => ?_)
  refine lv_iconst (v := 4) hx hb d_Md_likeness_5 (by decide) ?_
  refine lv_iload_n hx hb d_Md_likeness_6 rfl (lv_at hl 3 rfl) ?_
  refine lv_imul (x := 4) (y := (nI a)) hx hb d_Md_likeness_7 ?_
  refine lv_eqi (y := (nI (4 * a))) (pk_mul 4 a) ?_
  refine lv_istore (lv' := [(5, .int (nI (4 * a))), (4, .int 0), (3, .int 0), (0, .ref x), (1, .int (nI a)), (2, .int (nI b))]) hx hb d_Md_likeness_8 hl (by decide) rfl (fun ls hl => ?_)
  have loop10 : ∀ (fuel : Nat) (F2 : Nat → Nat → Int32) (B0 : Nat) (z0 : Bool) (j : Nat), mn a - j < fuel → (j ≤ mn a) → (∀ q, q ≠ 21 → F2 q = f q) → (mx2 f ln mn a b j = B0) → (anyTo (fun j => anyTo (samP f a b j) (mn b)) j = z0) → (B0 ≤ 240) → ∀ (H : Heap) (locs : List Loc), md_I D cs H x g i F2 → va_S (md_A x g) s.heap H locs → ∀ (ls : Array Slot), lv_has ls 8 [(0, .ref x), (1, .int (nI a)), (2, .int (nI b)), (3, .int (nI B0)), (4, .int (bI z0)), (5, .int (nI (4 * a + j)))] → W p l e (headSpec w_Md_likeness ({ frames := 1, cells := 0, slots := 0, locals := 25 })).room s m ([.ref x, .int (nI a), .int (nI b)] : List Value).toArray below meth c H locs 0 0 (MQ below (hQi (fun r H' => ∃ R : Nat → Int32, md_I D cs H' x g i (setA f 21 R) ∧ r = likeV f ln mn a b) (md_A x g)) ([.ref x, .int (nI a), .int (nI b)] : List Value).toArray s 0 0 (md_A x g)) (F0 m 10 ls []) := by
    intro fuel10
    induction fuel10 with
    | zero => intro F2 B0 z0 j hn; exact absurd hn (Nat.not_lt_zero _)
    | succ fuel10 ih10 =>
      intro F2 B0 z0 j hn10 hj hF2 hB0 hz0 hB240 H locs hI hS ls hl
      refine lv_iload hx hb d_Md_likeness_10 (lv_at hl 5 rfl) ?_
      refine lv_iconst (v := 4) hx hb d_Md_likeness_12 (by decide) ?_
      refine lv_iload_n hx hb d_Md_likeness_13 rfl (lv_at hl 1 rfl) ?_
      refine lv_imul (x := 4) (y := (nI a)) hx hb d_Md_likeness_14 ?_
      refine lv_eqi (y := (nI (4 * a))) (pk_mul 4 a) ?_
      refine lv_aload_n hx hb d_Md_likeness_15 rfl (lv_at hl 0 rfl) ?_
      refine hx_get (v := .ref (g 1)) hx hb htg iMd hown hK hI.1 rfl 4 (by decide) (htg _ (gw_mem (i := 1002) (by decide +kernel) rfl)) (fun _ h9 => h9) rfl d_Md_likeness_16 ?_
      refine lv_iload_n hx hb d_Md_likeness_19 rfl (lv_at hl 1 rfl) ?_
      refine hx_iald hx hb hK 0 (hI.2 1 (by decide)) rfl (show vp_in (nI a) 24 from vp_in_nI (n := a) (by omega) (by decide)) d_Md_likeness_20 ?_
      refine lv_eqi (y := (F2 1 a)) (show F2 1 (nI a).toNatClampNeg = _ by rw [nI_clamp (by omega)]) ?_
      refine lv_eqi (y := (nI (mn a))) (by rw [hF2 1 (by decide)]; exact (hV.1 a ha).1) ?_
      refine lv_iadd (x := (nI (4 * a))) (y := (nI (mn a))) hx hb d_Md_likeness_21 ?_
      refine lv_eqi (y := (nI (4 * a + mn a))) (nI_add (4 * a) (mn a)) ?_
      refine lv_icmp_ge (x := (nI (4 * a + j))) (y := (nI (4 * a + mn a))) (tgt := 128) hx hb d_Md_likeness_22 (by decide) (fun c22 => ?_) (fun c22 => ?_)
      · skip
        replace c22 : (4 * a + mn a) ≤ (4 * a + j) := (nI_leI (a := (4 * a + mn a)) (b := (4 * a + j)) (by omega) (by omega)).mp c22
        refine lv_aload_n hx hb d_Md_likeness_128 rfl (lv_at hl 0 rfl) ?_
        refine hx_get (v := .ref (g 8)) hx hb htg iMd hown hK hI.1 rfl 11 (by decide) (htg _ (gw_mem (i := 1009) (by decide +kernel) rfl)) (fun _ h9 => h9) rfl d_Md_likeness_129 ?_
        refine lv_iload_n hx hb d_Md_likeness_132 rfl (lv_at hl 1 rfl) ?_
        refine hx_iald hx hb hK 0 (hI.2 8 (by decide)) rfl (show vp_in (nI a) 24 from vp_in_nI (n := a) (by omega) (by decide)) d_Md_likeness_133 ?_
        refine lv_eqi (y := (F2 8 a)) (show F2 8 (nI a).toNatClampNeg = _ by rw [nI_clamp (by omega)]) ?_
        refine lv_eqi (y := (f 8 a)) (by rw [hF2 8 (by decide)]) ?_
        refine lv_iconst (v := (-1)) hx hb d_Md_likeness_134 (by decide) ?_
        refine lv_icmp_eq (x := (f 8 a)) (y := (-1)) (tgt := 152) hx hb d_Md_likeness_135 (by decide) (fun c135 => ?_) (fun c135 => ?_)
        · skip
          refine lv_iconst (v := 0) hx hb d_Md_likeness_152 (by decide) ?_
          refine lv_istore (lv' := [(5, .int 0), (0, .ref x), (1, .int (nI a)), (2, .int (nI b)), (3, .int (nI B0)), (4, .int (bI z0))]) hx hb d_Md_likeness_153 hl (by decide) rfl (fun ls hl => ?_)
          refine lv_iload hx hb d_Md_likeness_155 (lv_at hl 0 rfl) ?_
          refine lv_if_eq (x := 0) (tgt := 194) hx hb d_Md_likeness_157 (by decide) (fun c157 => ?_) (fun c157 => ?_)
          · skip
            refine lv_iconst (v := 0) hx hb d_Md_likeness_194 (by decide) ?_
            refine lv_istore (lv' := [(6, .int 0), (5, .int 0), (0, .ref x), (1, .int (nI a)), (2, .int (nI b)), (3, .int (nI B0)), (4, .int (bI z0))]) hx hb d_Md_likeness_195 hl (by decide) rfl (fun ls hl => ?_)
            refine lv_iload_n hx hb d_Md_likeness_197 rfl (lv_at hl 5 rfl) ?_
            refine lv_iload hx hb d_Md_likeness_198 (lv_at hl 6 rfl) ?_
            refine lv_if_eq (x := (bI z0)) (tgt := 207) hx hb d_Md_likeness_200 (by decide) (fun c200 => ?_) (fun c200 => ?_)
            · skip
              replace c200 : z0 = false := bI_0 c200
              refine lv_iconst (v := 0) hx hb d_Md_likeness_207 (by decide) ?_
              refine lv_iadd (x := (nI B0)) (y := 0) hx hb d_Md_likeness_208 ?_
              refine lv_iload hx hb d_Md_likeness_209 (lv_at hl 0 rfl) ?_
              refine lv_if_eq (x := 0) (tgt := 218) hx hb d_Md_likeness_211 (by decide) (fun c211 => ?_) (fun c211 => ?_)
              · skip
                refine lv_iload hx hb d_Md_likeness_218 (lv_at hl 1 rfl) ?_
                refine lv_if_eq (x := 0) (tgt := 228) hx hb d_Md_likeness_220 (by decide) (fun c220 => ?_) (fun c220 => ?_)
                · skip
                  refine lv_iconst (v := 0) hx hb d_Md_likeness_228 (by decide) ?_
                  refine lv_iadd (x := ((nI B0) + 0)) (y := 0) hx hb d_Md_likeness_229 ?_
                  exact W.iret (v := (((nI B0) + 0) + 0)) hx hb hr (fun t ht hW => ⟨⟨(((nI B0) + 0) + 0), H, rfl, ⟨F2 21, setA_of hF2 ▸ hI, by have e9 : j = mn a := (by omega); subst e9; unfold likeV samB togB datB; rw [hB0, hz0]; simp only [decide_eq_true c135, c200]; simp⟩, ht⟩, hS.F ht⟩) hS.2.2 d_Md_likeness_230
                · exact absurd c220 (by decide)
              · exact absurd c211 (by decide)
            · skip
              replace c200 : z0 = true := bI_1 c200
              refine lv_iconst (v := 2) hx hb d_Md_likeness_203 (by decide) ?_
              refine lv_goto (tgt := 208) hx hb d_Md_likeness_204 (by decide) ?_
              refine lv_iadd (x := (nI B0)) (y := 2) hx hb d_Md_likeness_208 ?_
              refine lv_iload hx hb d_Md_likeness_209 (lv_at hl 0 rfl) ?_
              refine lv_if_eq (x := 0) (tgt := 218) hx hb d_Md_likeness_211 (by decide) (fun c211 => ?_) (fun c211 => ?_)
              · skip
                refine lv_iload hx hb d_Md_likeness_218 (lv_at hl 1 rfl) ?_
                refine lv_if_eq (x := 0) (tgt := 228) hx hb d_Md_likeness_220 (by decide) (fun c220 => ?_) (fun c220 => ?_)
                · skip
                  refine lv_iconst (v := 0) hx hb d_Md_likeness_228 (by decide) ?_
                  refine lv_iadd (x := ((nI B0) + 2)) (y := 0) hx hb d_Md_likeness_229 ?_
                  exact W.iret (v := (((nI B0) + 2) + 0)) hx hb hr (fun t ht hW => ⟨⟨(((nI B0) + 2) + 0), H, rfl, ⟨F2 21, setA_of hF2 ▸ hI, by have e9 : j = mn a := (by omega); subst e9; unfold likeV samB togB datB; rw [hB0, hz0]; simp only [decide_eq_true c135, c200]; simp⟩, ht⟩, hS.F ht⟩) hS.2.2 d_Md_likeness_230
                · exact absurd c220 (by decide)
              · exact absurd c211 (by decide)
          · exact absurd c157 (by decide)
        · skip
          refine lv_aload_n hx hb d_Md_likeness_138 rfl (lv_at hl 0 rfl) ?_
          refine hx_get (v := .ref (g 8)) hx hb htg iMd hown hK hI.1 rfl 11 (by decide) (htg _ (gw_mem (i := 1009) (by decide +kernel) rfl)) (fun _ h9 => h9) rfl d_Md_likeness_139 ?_
          refine lv_iload_n hx hb d_Md_likeness_142 rfl (lv_at hl 2 rfl) ?_
          refine hx_iald hx hb hK 0 (hI.2 8 (by decide)) rfl (show vp_in (nI b) 24 from vp_in_nI (n := b) (by omega) (by decide)) d_Md_likeness_143 ?_
          refine lv_eqi (y := (F2 8 b)) (show F2 8 (nI b).toNatClampNeg = _ by rw [nI_clamp (by omega)]) ?_
          refine lv_eqi (y := (f 8 b)) (by rw [hF2 8 (by decide)]) ?_
          refine lv_iconst (v := (-1)) hx hb d_Md_likeness_144 (by decide) ?_
          refine lv_icmp_eq (x := (f 8 b)) (y := (-1)) (tgt := 152) hx hb d_Md_likeness_145 (by decide) (fun c145 => ?_) (fun c145 => ?_)
          · skip
            refine lv_iconst (v := 0) hx hb d_Md_likeness_152 (by decide) ?_
            refine lv_istore (lv' := [(5, .int 0), (0, .ref x), (1, .int (nI a)), (2, .int (nI b)), (3, .int (nI B0)), (4, .int (bI z0))]) hx hb d_Md_likeness_153 hl (by decide) rfl (fun ls hl => ?_)
            refine lv_iload hx hb d_Md_likeness_155 (lv_at hl 0 rfl) ?_
            refine lv_if_eq (x := 0) (tgt := 194) hx hb d_Md_likeness_157 (by decide) (fun c157 => ?_) (fun c157 => ?_)
            · skip
              refine lv_iconst (v := 0) hx hb d_Md_likeness_194 (by decide) ?_
              refine lv_istore (lv' := [(6, .int 0), (5, .int 0), (0, .ref x), (1, .int (nI a)), (2, .int (nI b)), (3, .int (nI B0)), (4, .int (bI z0))]) hx hb d_Md_likeness_195 hl (by decide) rfl (fun ls hl => ?_)
              refine lv_iload_n hx hb d_Md_likeness_197 rfl (lv_at hl 5 rfl) ?_
              refine lv_iload hx hb d_Md_likeness_198 (lv_at hl 6 rfl) ?_
              refine lv_if_eq (x := (bI z0)) (tgt := 207) hx hb d_Md_likeness_200 (by decide) (fun c200 => ?_) (fun c200 => ?_)
              · skip
                replace c200 : z0 = false := bI_0 c200
                refine lv_iconst (v := 0) hx hb d_Md_likeness_207 (by decide) ?_
                refine lv_iadd (x := (nI B0)) (y := 0) hx hb d_Md_likeness_208 ?_
                refine lv_iload hx hb d_Md_likeness_209 (lv_at hl 0 rfl) ?_
                refine lv_if_eq (x := 0) (tgt := 218) hx hb d_Md_likeness_211 (by decide) (fun c211 => ?_) (fun c211 => ?_)
                · skip
                  refine lv_iload hx hb d_Md_likeness_218 (lv_at hl 1 rfl) ?_
                  refine lv_if_eq (x := 0) (tgt := 228) hx hb d_Md_likeness_220 (by decide) (fun c220 => ?_) (fun c220 => ?_)
                  · skip
                    refine lv_iconst (v := 0) hx hb d_Md_likeness_228 (by decide) ?_
                    refine lv_iadd (x := ((nI B0) + 0)) (y := 0) hx hb d_Md_likeness_229 ?_
                    exact W.iret (v := (((nI B0) + 0) + 0)) hx hb hr (fun t ht hW => ⟨⟨(((nI B0) + 0) + 0), H, rfl, ⟨F2 21, setA_of hF2 ▸ hI, by have e9 : j = mn a := (by omega); subst e9; unfold likeV samB togB datB; rw [hB0, hz0]; simp only [decide_eq_false c135, decide_eq_true c145, c200]; simp⟩, ht⟩, hS.F ht⟩) hS.2.2 d_Md_likeness_230
                  · exact absurd c220 (by decide)
                · exact absurd c211 (by decide)
              · skip
                replace c200 : z0 = true := bI_1 c200
                refine lv_iconst (v := 2) hx hb d_Md_likeness_203 (by decide) ?_
                refine lv_goto (tgt := 208) hx hb d_Md_likeness_204 (by decide) ?_
                refine lv_iadd (x := (nI B0)) (y := 2) hx hb d_Md_likeness_208 ?_
                refine lv_iload hx hb d_Md_likeness_209 (lv_at hl 0 rfl) ?_
                refine lv_if_eq (x := 0) (tgt := 218) hx hb d_Md_likeness_211 (by decide) (fun c211 => ?_) (fun c211 => ?_)
                · skip
                  refine lv_iload hx hb d_Md_likeness_218 (lv_at hl 1 rfl) ?_
                  refine lv_if_eq (x := 0) (tgt := 228) hx hb d_Md_likeness_220 (by decide) (fun c220 => ?_) (fun c220 => ?_)
                  · skip
                    refine lv_iconst (v := 0) hx hb d_Md_likeness_228 (by decide) ?_
                    refine lv_iadd (x := ((nI B0) + 2)) (y := 0) hx hb d_Md_likeness_229 ?_
                    exact W.iret (v := (((nI B0) + 2) + 0)) hx hb hr (fun t ht hW => ⟨⟨(((nI B0) + 2) + 0), H, rfl, ⟨F2 21, setA_of hF2 ▸ hI, by have e9 : j = mn a := (by omega); subst e9; unfold likeV samB togB datB; rw [hB0, hz0]; simp only [decide_eq_false c135, decide_eq_true c145, c200]; simp⟩, ht⟩, hS.F ht⟩) hS.2.2 d_Md_likeness_230
                  · exact absurd c220 (by decide)
                · exact absurd c211 (by decide)
            · exact absurd c157 (by decide)
          · skip
            refine lv_iconst (v := 1) hx hb d_Md_likeness_148 (by decide) ?_
            refine lv_goto (tgt := 153) hx hb d_Md_likeness_149 (by decide) ?_
            refine lv_istore (lv' := [(5, .int 1), (0, .ref x), (1, .int (nI a)), (2, .int (nI b)), (3, .int (nI B0)), (4, .int (bI z0))]) hx hb d_Md_likeness_153 hl (by decide) rfl (fun ls hl => ?_)
            refine lv_iload hx hb d_Md_likeness_155 (lv_at hl 0 rfl) ?_
            refine lv_if_eq (x := 1) (tgt := 194) hx hb d_Md_likeness_157 (by decide) (fun c157 => ?_) (fun c157 => ?_)
            · exact absurd c157 (by decide)
            · skip
              refine lv_aload_n hx hb d_Md_likeness_160 rfl (lv_at hl 1 rfl) ?_
              refine hx_get (v := .ref (g 7)) hx hb htg iMd hown hK hI.1 rfl 10 (by decide) (htg _ (gw_mem (i := 1008) (by decide +kernel) rfl)) (fun _ h9 => h9) rfl d_Md_likeness_161 ?_
              refine lv_iload_n hx hb d_Md_likeness_164 rfl (lv_at hl 2 rfl) ?_
              refine hx_iald hx hb hK 0 (hI.2 7 (by decide)) rfl (show vp_in (nI a) 24 from vp_in_nI (n := a) (by omega) (by decide)) d_Md_likeness_165 ?_
              refine lv_eqi (y := (F2 7 a)) (show F2 7 (nI a).toNatClampNeg = _ by rw [nI_clamp (by omega)]) ?_
              refine lv_eqi (y := (f 7 a)) (by rw [hF2 7 (by decide)]) ?_
              refine lv_aload_n hx hb d_Md_likeness_166 rfl (lv_at hl 1 rfl) ?_
              refine hx_get (v := .ref (g 8)) hx hb htg iMd hown hK hI.1 rfl 11 (by decide) (htg _ (gw_mem (i := 1009) (by decide +kernel) rfl)) (fun _ h9 => h9) rfl d_Md_likeness_167 ?_
              refine lv_iload_n hx hb d_Md_likeness_170 rfl (lv_at hl 3 rfl) ?_
              refine hx_iald hx hb hK 0 (hI.2 8 (by decide)) rfl (show vp_in (nI b) 24 from vp_in_nI (n := b) (by omega) (by decide)) d_Md_likeness_171 ?_
              refine lv_eqi (y := (F2 8 b)) (show F2 8 (nI b).toNatClampNeg = _ by rw [nI_clamp (by omega)]) ?_
              refine lv_eqi (y := (f 8 b)) (by rw [hF2 8 (by decide)]) ?_
              refine lv_icmp_gt (x := (f 7 a)) (y := (f 8 b)) (tgt := 194) hx hb d_Md_likeness_172 (by decide) (fun c172 => ?_) (fun c172 => ?_)
              · skip
                refine lv_iconst (v := 0) hx hb d_Md_likeness_194 (by decide) ?_
                refine lv_istore (lv' := [(6, .int 0), (5, .int 1), (0, .ref x), (1, .int (nI a)), (2, .int (nI b)), (3, .int (nI B0)), (4, .int (bI z0))]) hx hb d_Md_likeness_195 hl (by decide) rfl (fun ls hl => ?_)
                refine lv_iload_n hx hb d_Md_likeness_197 rfl (lv_at hl 5 rfl) ?_
                refine lv_iload hx hb d_Md_likeness_198 (lv_at hl 6 rfl) ?_
                refine lv_if_eq (x := (bI z0)) (tgt := 207) hx hb d_Md_likeness_200 (by decide) (fun c200 => ?_) (fun c200 => ?_)
                · skip
                  replace c200 : z0 = false := bI_0 c200
                  refine lv_iconst (v := 0) hx hb d_Md_likeness_207 (by decide) ?_
                  refine lv_iadd (x := (nI B0)) (y := 0) hx hb d_Md_likeness_208 ?_
                  refine lv_iload hx hb d_Md_likeness_209 (lv_at hl 0 rfl) ?_
                  refine lv_if_eq (x := 0) (tgt := 218) hx hb d_Md_likeness_211 (by decide) (fun c211 => ?_) (fun c211 => ?_)
                  · skip
                    refine lv_iload hx hb d_Md_likeness_218 (lv_at hl 1 rfl) ?_
                    refine lv_if_eq (x := 1) (tgt := 228) hx hb d_Md_likeness_220 (by decide) (fun c220 => ?_) (fun c220 => ?_)
                    · exact absurd c220 (by decide)
                    · skip
                      refine lv_bipush (v := (-5)) hx hb d_Md_likeness_223 (by decide) ?_
                      refine lv_goto (tgt := 229) hx hb d_Md_likeness_225 (by decide) ?_
                      refine lv_iadd (x := ((nI B0) + 0)) (y := (-5)) hx hb d_Md_likeness_229 ?_
                      exact W.iret (v := (((nI B0) + 0) + (-5))) hx hb hr (fun t ht hW => ⟨⟨(((nI B0) + 0) + (-5)), H, rfl, ⟨F2 21, setA_of hF2 ▸ hI, by have e9 : j = mn a := (by omega); subst e9; unfold likeV samB togB datB; rw [hB0, hz0]; simp only [decide_eq_false c135, decide_eq_false c145, decide_eq_true c172, c200]; simp⟩, ht⟩, hS.F ht⟩) hS.2.2 d_Md_likeness_230
                  · exact absurd c211 (by decide)
                · skip
                  replace c200 : z0 = true := bI_1 c200
                  refine lv_iconst (v := 2) hx hb d_Md_likeness_203 (by decide) ?_
                  refine lv_goto (tgt := 208) hx hb d_Md_likeness_204 (by decide) ?_
                  refine lv_iadd (x := (nI B0)) (y := 2) hx hb d_Md_likeness_208 ?_
                  refine lv_iload hx hb d_Md_likeness_209 (lv_at hl 0 rfl) ?_
                  refine lv_if_eq (x := 0) (tgt := 218) hx hb d_Md_likeness_211 (by decide) (fun c211 => ?_) (fun c211 => ?_)
                  · skip
                    refine lv_iload hx hb d_Md_likeness_218 (lv_at hl 1 rfl) ?_
                    refine lv_if_eq (x := 1) (tgt := 228) hx hb d_Md_likeness_220 (by decide) (fun c220 => ?_) (fun c220 => ?_)
                    · exact absurd c220 (by decide)
                    · skip
                      refine lv_bipush (v := (-5)) hx hb d_Md_likeness_223 (by decide) ?_
                      refine lv_goto (tgt := 229) hx hb d_Md_likeness_225 (by decide) ?_
                      refine lv_iadd (x := ((nI B0) + 2)) (y := (-5)) hx hb d_Md_likeness_229 ?_
                      exact W.iret (v := (((nI B0) + 2) + (-5))) hx hb hr (fun t ht hW => ⟨⟨(((nI B0) + 2) + (-5)), H, rfl, ⟨F2 21, setA_of hF2 ▸ hI, by have e9 : j = mn a := (by omega); subst e9; unfold likeV samB togB datB; rw [hB0, hz0]; simp only [decide_eq_false c135, decide_eq_false c145, decide_eq_true c172, c200]; simp⟩, ht⟩, hS.F ht⟩) hS.2.2 d_Md_likeness_230
                  · exact absurd c211 (by decide)
              · skip
                refine lv_aload_n hx hb d_Md_likeness_175 rfl (lv_at hl 1 rfl) ?_
                refine hx_get (v := .ref (g 7)) hx hb htg iMd hown hK hI.1 rfl 10 (by decide) (htg _ (gw_mem (i := 1008) (by decide +kernel) rfl)) (fun _ h9 => h9) rfl d_Md_likeness_176 ?_
                refine lv_iload_n hx hb d_Md_likeness_179 rfl (lv_at hl 3 rfl) ?_
                refine hx_iald hx hb hK 0 (hI.2 7 (by decide)) rfl (show vp_in (nI b) 24 from vp_in_nI (n := b) (by omega) (by decide)) d_Md_likeness_180 ?_
                refine lv_eqi (y := (F2 7 b)) (show F2 7 (nI b).toNatClampNeg = _ by rw [nI_clamp (by omega)]) ?_
                refine lv_eqi (y := (f 7 b)) (by rw [hF2 7 (by decide)]) ?_
                refine lv_aload_n hx hb d_Md_likeness_181 rfl (lv_at hl 1 rfl) ?_
                refine hx_get (v := .ref (g 8)) hx hb htg iMd hown hK hI.1 rfl 11 (by decide) (htg _ (gw_mem (i := 1009) (by decide +kernel) rfl)) (fun _ h9 => h9) rfl d_Md_likeness_182 ?_
                refine lv_iload_n hx hb d_Md_likeness_185 rfl (lv_at hl 2 rfl) ?_
                refine hx_iald hx hb hK 0 (hI.2 8 (by decide)) rfl (show vp_in (nI a) 24 from vp_in_nI (n := a) (by omega) (by decide)) d_Md_likeness_186 ?_
                refine lv_eqi (y := (F2 8 a)) (show F2 8 (nI a).toNatClampNeg = _ by rw [nI_clamp (by omega)]) ?_
                refine lv_eqi (y := (f 8 a)) (by rw [hF2 8 (by decide)]) ?_
                refine lv_icmp_gt (x := (f 7 b)) (y := (f 8 a)) (tgt := 194) hx hb d_Md_likeness_187 (by decide) (fun c187 => ?_) (fun c187 => ?_)
                · skip
                  refine lv_iconst (v := 0) hx hb d_Md_likeness_194 (by decide) ?_
                  refine lv_istore (lv' := [(6, .int 0), (5, .int 1), (0, .ref x), (1, .int (nI a)), (2, .int (nI b)), (3, .int (nI B0)), (4, .int (bI z0))]) hx hb d_Md_likeness_195 hl (by decide) rfl (fun ls hl => ?_)
                  refine lv_iload_n hx hb d_Md_likeness_197 rfl (lv_at hl 5 rfl) ?_
                  refine lv_iload hx hb d_Md_likeness_198 (lv_at hl 6 rfl) ?_
                  refine lv_if_eq (x := (bI z0)) (tgt := 207) hx hb d_Md_likeness_200 (by decide) (fun c200 => ?_) (fun c200 => ?_)
                  · skip
                    replace c200 : z0 = false := bI_0 c200
                    refine lv_iconst (v := 0) hx hb d_Md_likeness_207 (by decide) ?_
                    refine lv_iadd (x := (nI B0)) (y := 0) hx hb d_Md_likeness_208 ?_
                    refine lv_iload hx hb d_Md_likeness_209 (lv_at hl 0 rfl) ?_
                    refine lv_if_eq (x := 0) (tgt := 218) hx hb d_Md_likeness_211 (by decide) (fun c211 => ?_) (fun c211 => ?_)
                    · skip
                      refine lv_iload hx hb d_Md_likeness_218 (lv_at hl 1 rfl) ?_
                      refine lv_if_eq (x := 1) (tgt := 228) hx hb d_Md_likeness_220 (by decide) (fun c220 => ?_) (fun c220 => ?_)
                      · exact absurd c220 (by decide)
                      · skip
                        refine lv_bipush (v := (-5)) hx hb d_Md_likeness_223 (by decide) ?_
                        refine lv_goto (tgt := 229) hx hb d_Md_likeness_225 (by decide) ?_
                        refine lv_iadd (x := ((nI B0) + 0)) (y := (-5)) hx hb d_Md_likeness_229 ?_
                        exact W.iret (v := (((nI B0) + 0) + (-5))) hx hb hr (fun t ht hW => ⟨⟨(((nI B0) + 0) + (-5)), H, rfl, ⟨F2 21, setA_of hF2 ▸ hI, by have e9 : j = mn a := (by omega); subst e9; unfold likeV samB togB datB; rw [hB0, hz0]; simp only [decide_eq_false c135, decide_eq_false c145, decide_eq_false c172, decide_eq_true c187, c200]; simp⟩, ht⟩, hS.F ht⟩) hS.2.2 d_Md_likeness_230
                    · exact absurd c211 (by decide)
                  · skip
                    replace c200 : z0 = true := bI_1 c200
                    refine lv_iconst (v := 2) hx hb d_Md_likeness_203 (by decide) ?_
                    refine lv_goto (tgt := 208) hx hb d_Md_likeness_204 (by decide) ?_
                    refine lv_iadd (x := (nI B0)) (y := 2) hx hb d_Md_likeness_208 ?_
                    refine lv_iload hx hb d_Md_likeness_209 (lv_at hl 0 rfl) ?_
                    refine lv_if_eq (x := 0) (tgt := 218) hx hb d_Md_likeness_211 (by decide) (fun c211 => ?_) (fun c211 => ?_)
                    · skip
                      refine lv_iload hx hb d_Md_likeness_218 (lv_at hl 1 rfl) ?_
                      refine lv_if_eq (x := 1) (tgt := 228) hx hb d_Md_likeness_220 (by decide) (fun c220 => ?_) (fun c220 => ?_)
                      · exact absurd c220 (by decide)
                      · skip
                        refine lv_bipush (v := (-5)) hx hb d_Md_likeness_223 (by decide) ?_
                        refine lv_goto (tgt := 229) hx hb d_Md_likeness_225 (by decide) ?_
                        refine lv_iadd (x := ((nI B0) + 2)) (y := (-5)) hx hb d_Md_likeness_229 ?_
                        exact W.iret (v := (((nI B0) + 2) + (-5))) hx hb hr (fun t ht hW => ⟨⟨(((nI B0) + 2) + (-5)), H, rfl, ⟨F2 21, setA_of hF2 ▸ hI, by have e9 : j = mn a := (by omega); subst e9; unfold likeV samB togB datB; rw [hB0, hz0]; simp only [decide_eq_false c135, decide_eq_false c145, decide_eq_false c172, decide_eq_true c187, c200]; simp⟩, ht⟩, hS.F ht⟩) hS.2.2 d_Md_likeness_230
                    · exact absurd c211 (by decide)
                · skip
                  refine lv_iconst (v := 1) hx hb d_Md_likeness_190 (by decide) ?_
                  refine lv_goto (tgt := 195) hx hb d_Md_likeness_191 (by decide) ?_
                  refine lv_istore (lv' := [(6, .int 1), (5, .int 1), (0, .ref x), (1, .int (nI a)), (2, .int (nI b)), (3, .int (nI B0)), (4, .int (bI z0))]) hx hb d_Md_likeness_195 hl (by decide) rfl (fun ls hl => ?_)
                  refine lv_iload_n hx hb d_Md_likeness_197 rfl (lv_at hl 5 rfl) ?_
                  refine lv_iload hx hb d_Md_likeness_198 (lv_at hl 6 rfl) ?_
                  refine lv_if_eq (x := (bI z0)) (tgt := 207) hx hb d_Md_likeness_200 (by decide) (fun c200 => ?_) (fun c200 => ?_)
                  · skip
                    replace c200 : z0 = false := bI_0 c200
                    refine lv_iconst (v := 0) hx hb d_Md_likeness_207 (by decide) ?_
                    refine lv_iadd (x := (nI B0)) (y := 0) hx hb d_Md_likeness_208 ?_
                    refine lv_iload hx hb d_Md_likeness_209 (lv_at hl 0 rfl) ?_
                    refine lv_if_eq (x := 1) (tgt := 218) hx hb d_Md_likeness_211 (by decide) (fun c211 => ?_) (fun c211 => ?_)
                    · exact absurd c211 (by decide)
                    · skip
                      refine lv_iconst (v := 3) hx hb d_Md_likeness_214 (by decide) ?_
                      refine lv_goto (tgt := 229) hx hb d_Md_likeness_215 (by decide) ?_
                      refine lv_iadd (x := ((nI B0) + 0)) (y := 3) hx hb d_Md_likeness_229 ?_
                      exact W.iret (v := (((nI B0) + 0) + 3)) hx hb hr (fun t ht hW => ⟨⟨(((nI B0) + 0) + 3), H, rfl, ⟨F2 21, setA_of hF2 ▸ hI, by have e9 : j = mn a := (by omega); subst e9; unfold likeV samB togB datB; rw [hB0, hz0]; simp only [decide_eq_false c135, decide_eq_false c145, decide_eq_false c172, decide_eq_false c187, c200]; simp⟩, ht⟩, hS.F ht⟩) hS.2.2 d_Md_likeness_230
                  · skip
                    replace c200 : z0 = true := bI_1 c200
                    refine lv_iconst (v := 2) hx hb d_Md_likeness_203 (by decide) ?_
                    refine lv_goto (tgt := 208) hx hb d_Md_likeness_204 (by decide) ?_
                    refine lv_iadd (x := (nI B0)) (y := 2) hx hb d_Md_likeness_208 ?_
                    refine lv_iload hx hb d_Md_likeness_209 (lv_at hl 0 rfl) ?_
                    refine lv_if_eq (x := 1) (tgt := 218) hx hb d_Md_likeness_211 (by decide) (fun c211 => ?_) (fun c211 => ?_)
                    · exact absurd c211 (by decide)
                    · skip
                      refine lv_iconst (v := 3) hx hb d_Md_likeness_214 (by decide) ?_
                      refine lv_goto (tgt := 229) hx hb d_Md_likeness_215 (by decide) ?_
                      refine lv_iadd (x := ((nI B0) + 2)) (y := 3) hx hb d_Md_likeness_229 ?_
                      exact W.iret (v := (((nI B0) + 2) + 3)) hx hb hr (fun t ht hW => ⟨⟨(((nI B0) + 2) + 3), H, rfl, ⟨F2 21, setA_of hF2 ▸ hI, by have e9 : j = mn a := (by omega); subst e9; unfold likeV samB togB datB; rw [hB0, hz0]; simp only [decide_eq_false c135, decide_eq_false c145, decide_eq_false c172, decide_eq_false c187, c200]; simp⟩, ht⟩, hS.F ht⟩) hS.2.2 d_Md_likeness_230
      · skip
        replace c22 : ¬ ((4 * a + mn a) ≤ (4 * a + j)) := fun z9 => c22 ((nI_leI (a := (4 * a + mn a)) (b := (4 * a + j)) (by omega) (by omega)).mpr z9)
        refine lv_iconst (v := 4) hx hb d_Md_likeness_25 (by decide) ?_
        refine lv_iload_n hx hb d_Md_likeness_26 rfl (lv_at hl 2 rfl) ?_
        refine lv_imul (x := 4) (y := (nI b)) hx hb d_Md_likeness_27 ?_
        refine lv_eqi (y := (nI (4 * b))) (pk_mul 4 b) ?_
        refine lv_istore (lv' := [(6, .int (nI (4 * b))), (0, .ref x), (1, .int (nI a)), (2, .int (nI b)), (3, .int (nI B0)), (4, .int (bI z0)), (5, .int (nI (4 * a + j)))]) hx hb d_Md_likeness_28 hl (by decide) rfl (fun ls hl => ?_)
        have loop30 : ∀ (fuel : Nat) (F3 : Nat → Nat → Int32) (B : Nat) (z : Bool) (k : Nat), mn b - k < fuel → (k ≤ mn b) → (∀ q, q ≠ 21 → F3 q = f q) → (mxTo (ptP f ln a b j) B0 k = B) → ((z0 || anyTo (samP f a b j) k) = z) → (B ≤ 240) → ∀ (H : Heap) (locs : List Loc), md_I D cs H x g i F3 → va_S (md_A x g) s.heap H locs → ∀ (ls : Array Slot), lv_has ls 8 [(0, .ref x), (1, .int (nI a)), (2, .int (nI b)), (3, .int (nI B)), (4, .int (bI z)), (5, .int (nI (4 * a + j))), (6, .int (nI (4 * b + k)))] → W p l e (headSpec w_Md_likeness ({ frames := 1, cells := 0, slots := 0, locals := 25 })).room s m ([.ref x, .int (nI a), .int (nI b)] : List Value).toArray below meth c H locs 0 0 (MQ below (hQi (fun r H' => ∃ R : Nat → Int32, md_I D cs H' x g i (setA f 21 R) ∧ r = likeV f ln mn a b) (md_A x g)) ([.ref x, .int (nI a), .int (nI b)] : List Value).toArray s 0 0 (md_A x g)) (F0 m 30 ls []) := by
          intro fuel30
          induction fuel30 with
          | zero => intro F3 B z k hn; exact absurd hn (Nat.not_lt_zero _)
          | succ fuel30 ih30 =>
            intro F3 B z k hn30 hk hF3 hB9 hz9 hBB H locs hI hS ls hl
            refine lv_iload hx hb d_Md_likeness_30 (lv_at hl 6 rfl) ?_
            refine lv_iconst (v := 4) hx hb d_Md_likeness_32 (by decide) ?_
            refine lv_iload_n hx hb d_Md_likeness_33 rfl (lv_at hl 2 rfl) ?_
            refine lv_imul (x := 4) (y := (nI b)) hx hb d_Md_likeness_34 ?_
            refine lv_eqi (y := (nI (4 * b))) (pk_mul 4 b) ?_
            refine lv_aload_n hx hb d_Md_likeness_35 rfl (lv_at hl 0 rfl) ?_
            refine hx_get (v := .ref (g 1)) hx hb htg iMd hown hK hI.1 rfl 4 (by decide) (htg _ (gw_mem (i := 1002) (by decide +kernel) rfl)) (fun _ h9 => h9) rfl d_Md_likeness_36 ?_
            refine lv_iload_n hx hb d_Md_likeness_39 rfl (lv_at hl 2 rfl) ?_
            refine hx_iald hx hb hK 0 (hI.2 1 (by decide)) rfl (show vp_in (nI b) 24 from vp_in_nI (n := b) (by omega) (by decide)) d_Md_likeness_40 ?_
            refine lv_eqi (y := (F3 1 b)) (show F3 1 (nI b).toNatClampNeg = _ by rw [nI_clamp (by omega)]) ?_
            refine lv_eqi (y := (nI (mn b))) (by rw [hF3 1 (by decide)]; exact (hV.1 b hb1).1) ?_
            refine lv_iadd (x := (nI (4 * b))) (y := (nI (mn b))) hx hb d_Md_likeness_41 ?_
            refine lv_eqi (y := (nI (4 * b + mn b))) (nI_add (4 * b) (mn b)) ?_
            refine lv_icmp_ge (x := (nI (4 * b + k))) (y := (nI (4 * b + mn b))) (tgt := 122) hx hb d_Md_likeness_42 (by decide) (fun c42 => ?_) (fun c42 => ?_)
            · skip
              replace c42 : (4 * b + mn b) ≤ (4 * b + k) := (nI_leI (a := (4 * b + mn b)) (b := (4 * b + k)) (by omega) (by omega)).mp c42
              refine lv_iinc (v := (nI (4 * a + j + 1))) (lv' := [(5, .int (nI (4 * a + j + 1))), (0, .ref x), (1, .int (nI a)), (2, .int (nI b)), (3, .int (nI B)), (4, .int (bI z)), (6, .int (nI (4 * b + k)))]) hx hb d_Md_likeness_122 hl (k := 5) rfl (nI_1 (4 * a + j)) (by decide) rfl (fun ls hl => ?_)
              refine lv_goto (tgt := 10) hx hb d_Md_likeness_125 (by decide) ?_
              exact ih10  _ B z (j + 1) (by omega) (by omega) hF3 (by have e9 : k = mn b := (by omega); subst e9; rw [mx2, hB0, hB9]) (by rw [anyTo, hz0]; have e9 : k = mn b := (by omega); subst e9; exact hz9) hBB _ _ hI hS ls (lv_sub hl [1, 2, 3, 4, 5, 0] rfl)
            · skip
              replace c42 : ¬ ((4 * b + mn b) ≤ (4 * b + k)) := fun z9 => c42 ((nI_leI (a := (4 * b + mn b)) (b := (4 * b + k)) (by omega) (by omega)).mpr z9)
              have hlv := hV.2.1 (4 * a + j) (by omega)
              have hlw := hV.2.1 (4 * b + k) (by omega)
              have hl1 := hV.2.2 a j ha (by omega)
              have hlc := lcsV_le (f := f) (ln := ln) (v := 4 * a + j) hlw.2
              have hpt := ptsV_le (f := f) (ln := ln) (v := 4 * a + j) hlw.2
              refine lv_bipush (v := 20) hx hb d_Md_likeness_45 (by decide) ?_
              refine lv_aload_n hx hb d_Md_likeness_47 rfl (lv_at hl 0 rfl) ?_
              refine lv_iload hx hb d_Md_likeness_48 (lv_at hl 5 rfl) ?_
              refine lv_iload hx hb d_Md_likeness_50 (lv_at hl 6 rfl) ?_
              refine h_calli (va_runV (As := [.int (nI (4 * a + j)), .int (nI (4 * b + k))]) (rest := [.int 20]) ⟨hx, hb, hml, hown, htg⟩ (c_Md_common l D cs N0 H x g i F3 (4 * a + j) (4 * b + k) hsep hI ln ((agr.of21 hF3).wf hV).2.1 (by omega) (by omega)) (cwV 2 htg (gw_V (gw_mem (i := 1128) (by decide +kernel) rfl) (gw_mem (i := 1130) (by decide +kernel) rfl) (gw_mem (i := 21) (by decide +kernel) rfl) (gw_mem (i := 38) (by decide +kernel) rfl) (gw_mem (i := 1131) (by decide +kernel) rfl)) rfl rfl rfl (by decide +kernel) ⟨Nat.le_of_ble_eq_true rfl, Nat.le_of_ble_eq_true rfl⟩) ⟨hPre.blind, hx_recv hK (ci := 0) rfl hI.1, hPre.at hB hS hsep.A⟩ rfl rfl hl.1 rfl (lv_room (Nat.le_of_ble_eq_true rfl)) d_Md_likeness_52 ⟨Nat.zero_le _, Nat.zero_le _⟩) hS (fun _ h => h) (fun r52 H locs hp hz hk hS => ?_)
              obtain ⟨R, hI, er52⟩ := hp
              refine lv_eqi (y := (nI (lcsV f ln (4 * a + j) (4 * b + k)))) (er52.trans (by rw [(agr.of21 hF3).lcs])) ?_
              refine lv_imul (x := 20) (y := (nI (lcsV f ln (4 * a + j) (4 * b + k)))) hx hb d_Md_likeness_55 ?_
              refine lv_eqi (y := (nI (20 * (lcsV f ln (4 * a + j) (4 * b + k))))) (pk_mul 20 (lcsV f ln (4 * a + j) (4 * b + k))) ?_
              refine lv_aload_n hx hb d_Md_likeness_56 rfl (lv_at hl 0 rfl) ?_
              refine hx_get (v := .ref (g 2)) hx hb htg iMd hown hK hI.1 rfl 5 (by decide) (htg _ (gw_mem (i := 1003) (by decide +kernel) rfl)) (fun _ h9 => h9) rfl d_Md_likeness_57 ?_
              refine lv_iload hx hb d_Md_likeness_60 (lv_at hl 5 rfl) ?_
              refine hx_iald hx hb hK 0 (hI.2 2 (by decide)) rfl (show vp_in (nI (4 * a + j)) 96 from vp_in_nI (n := 4 * a + j) (by omega) (by decide)) d_Md_likeness_62 ?_
              refine lv_eqi (y := ((setA F3 21 R) 2 (4 * a + j))) (show (setA F3 21 R) 2 (nI (4 * a + j)).toNatClampNeg = _ by rw [nI_clamp (by omega)]) ?_
              refine lv_eqi (y := (nI (ln (4 * a + j)))) (by rw [setA_ne (by decide), hF3 2 (by decide)]; exact hlv.1) ?_
              refine lv_aload_n hx hb d_Md_likeness_63 rfl (lv_at hl 0 rfl) ?_
              refine hx_get (v := .ref (g 2)) hx hb htg iMd hown hK hI.1 rfl 5 (by decide) (htg _ (gw_mem (i := 1003) (by decide +kernel) rfl)) (fun _ h9 => h9) rfl d_Md_likeness_64 ?_
              refine lv_iload hx hb d_Md_likeness_67 (lv_at hl 6 rfl) ?_
              refine hx_iald hx hb hK 0 (hI.2 2 (by decide)) rfl (show vp_in (nI (4 * b + k)) 96 from vp_in_nI (n := 4 * b + k) (by omega) (by decide)) d_Md_likeness_69 ?_
              refine lv_eqi (y := ((setA F3 21 R) 2 (4 * b + k))) (show (setA F3 21 R) 2 (nI (4 * b + k)).toNatClampNeg = _ by rw [nI_clamp (by omega)]) ?_
              refine lv_eqi (y := (nI (ln (4 * b + k)))) (by rw [setA_ne (by decide), hF3 2 (by decide)]; exact hlw.1) ?_
              refine lv_iadd (x := (nI (ln (4 * a + j)))) (y := (nI (ln (4 * b + k)))) hx hb d_Md_likeness_70 ?_
              refine lv_eqi (y := (nI (ln (4 * a + j) + ln (4 * b + k)))) (nI_add (ln (4 * a + j)) (ln (4 * b + k))) ?_
              refine lv_idiv (x := (nI (20 * (lcsV f ln (4 * a + j) (4 * b + k))))) (y := (nI (ln (4 * a + j) + ln (4 * b + k)))) hx hb d_Md_likeness_71 (nI_ne0 (n := ln (4 * a + j) + ln (4 * b + k)) (by omega) (by omega)) ?_
              refine lv_eqi (y := (nI (ptsV f ln (4 * a + j) (4 * b + k)))) (pk_div (a := 20 * lcsV f ln (4 * a + j) (4 * b + k)) (d := ln (4 * a + j) + ln (4 * b + k)) (by omega) (by omega) (by omega)) ?_
              refine lv_istore (lv' := [(7, .int (nI (ptsV f ln (4 * a + j) (4 * b + k)))), (0, .ref x), (1, .int (nI a)), (2, .int (nI b)), (3, .int (nI B)), (4, .int (bI z)), (5, .int (nI (4 * a + j))), (6, .int (nI (4 * b + k)))]) hx hb d_Md_likeness_72 hl (by decide) rfl (fun ls hl => ?_)
              refine lv_iload hx hb d_Md_likeness_74 (lv_at hl 0 rfl) ?_
              refine lv_iload_n hx hb d_Md_likeness_76 rfl (lv_at hl 4 rfl) ?_
              refine lv_icmp_le (x := (nI (ptsV f ln (4 * a + j) (4 * b + k)))) (y := (nI B)) (tgt := 85) hx hb d_Md_likeness_77 (by decide) (fun c77 => ?_) (fun c77 => ?_)
              · skip
                replace c77 : (ptsV f ln (4 * a + j) (4 * b + k)) ≤ B := (nI_leI (a := (ptsV f ln (4 * a + j) (4 * b + k))) (b := B) (by omega) (by omega)).mp c77
                refine lv_iload_n hx hb d_Md_likeness_85 rfl (lv_at hl 4 rfl) ?_
                refine lv_istore_n (lv' := [(3, .int (nI B)), (7, .int (nI (ptsV f ln (4 * a + j) (4 * b + k)))), (0, .ref x), (1, .int (nI a)), (2, .int (nI b)), (4, .int (bI z)), (5, .int (nI (4 * a + j))), (6, .int (nI (4 * b + k)))]) hx hb d_Md_likeness_86 rfl hl (by decide) rfl (fun ls hl => ?_)
                refine lv_iload hx hb d_Md_likeness_87 (lv_at hl 5 rfl) ?_
                refine lv_if_ne (x := (bI z)) (tgt := 109) hx hb d_Md_likeness_89 (by decide) (fun c89 => ?_) (fun c89 => ?_)
                · skip
                  replace c89 : z = true := bI_1 c89
                  refine lv_iconst (v := 1) hx hb d_Md_likeness_109 (by decide) ?_
                  refine lv_goto (tgt := 114) hx hb d_Md_likeness_110 (by decide) ?_
                  refine lv_istore (lv' := [(4, .int 1), (3, .int (nI B)), (7, .int (nI (ptsV f ln (4 * a + j) (4 * b + k)))), (0, .ref x), (1, .int (nI a)), (2, .int (nI b)), (5, .int (nI (4 * a + j))), (6, .int (nI (4 * b + k)))]) hx hb d_Md_likeness_114 hl (by decide) rfl (fun ls hl => ?_)
                  refine lv_iinc (v := (nI (4 * b + k + 1))) (lv' := [(6, .int (nI (4 * b + k + 1))), (4, .int 1), (3, .int (nI B)), (7, .int (nI (ptsV f ln (4 * a + j) (4 * b + k)))), (0, .ref x), (1, .int (nI a)), (2, .int (nI b)), (5, .int (nI (4 * a + j)))]) hx hb d_Md_likeness_116 hl (k := 7) rfl (nI_1 (4 * b + k)) (by decide) rfl (fun ls hl => ?_)
                  refine lv_goto (tgt := 30) hx hb d_Md_likeness_119 (by decide) ?_
                  exact ih30  _ B true (k + 1) (by omega) (by omega) (fun q hq => (setA_ne hq).trans (hF3 q hq)) (by rw [mxTo, hB9]; exact if_neg (show ¬ B < ptsV f ln (4 * a + j) (4 * b + k) by omega)) (by rw [anyTo, ← Bool.or_assoc, hz9]; simp [samP, c89]) (by omega) _ _ hI hS ls (lv_sub hl [4, 5, 6, 2, 1, 7, 0] rfl)
                · skip
                  replace c89 : z = false := bI_0 c89
                  refine lv_aload_n hx hb d_Md_likeness_92 rfl (lv_at hl 2 rfl) ?_
                  refine hx_get (v := .ref (g 4)) hx hb htg iMd hown hK hI.1 rfl 7 (by decide) (htg _ (gw_mem (i := 1005) (by decide +kernel) rfl)) (fun _ h9 => h9) rfl d_Md_likeness_93 ?_
                  refine lv_iload hx hb d_Md_likeness_96 (lv_at hl 6 rfl) ?_
                  refine hx_iald hx hb hK 0 (hI.2 4 (by decide)) rfl (show vp_in (nI (4 * a + j)) 96 from vp_in_nI (n := 4 * a + j) (by omega) (by decide)) d_Md_likeness_98 ?_
                  refine lv_eqi (y := ((setA F3 21 R) 4 (4 * a + j))) (show (setA F3 21 R) 4 (nI (4 * a + j)).toNatClampNeg = _ by rw [nI_clamp (by omega)]) ?_
                  refine lv_eqi (y := (f 4 (4 * a + j))) (by rw [setA_ne (by decide), hF3 4 (by decide)]) ?_
                  refine lv_aload_n hx hb d_Md_likeness_99 rfl (lv_at hl 2 rfl) ?_
                  refine hx_get (v := .ref (g 4)) hx hb htg iMd hown hK hI.1 rfl 7 (by decide) (htg _ (gw_mem (i := 1005) (by decide +kernel) rfl)) (fun _ h9 => h9) rfl d_Md_likeness_100 ?_
                  refine lv_iload hx hb d_Md_likeness_103 (lv_at hl 7 rfl) ?_
                  refine hx_iald hx hb hK 0 (hI.2 4 (by decide)) rfl (show vp_in (nI (4 * b + k)) 96 from vp_in_nI (n := 4 * b + k) (by omega) (by decide)) d_Md_likeness_105 ?_
                  refine lv_eqi (y := ((setA F3 21 R) 4 (4 * b + k))) (show (setA F3 21 R) 4 (nI (4 * b + k)).toNatClampNeg = _ by rw [nI_clamp (by omega)]) ?_
                  refine lv_eqi (y := (f 4 (4 * b + k))) (by rw [setA_ne (by decide), hF3 4 (by decide)]) ?_
                  refine lv_icmp_ne (x := (f 4 (4 * a + j))) (y := (f 4 (4 * b + k))) (tgt := 113) hx hb d_Md_likeness_106 (by decide) (fun c106 => ?_) (fun c106 => ?_)
                  · skip
                    refine lv_iconst (v := 0) hx hb d_Md_likeness_113 (by decide) ?_
                    refine lv_istore (lv' := [(4, .int 0), (3, .int (nI B)), (7, .int (nI (ptsV f ln (4 * a + j) (4 * b + k)))), (0, .ref x), (1, .int (nI a)), (2, .int (nI b)), (5, .int (nI (4 * a + j))), (6, .int (nI (4 * b + k)))]) hx hb d_Md_likeness_114 hl (by decide) rfl (fun ls hl => ?_)
                    refine lv_iinc (v := (nI (4 * b + k + 1))) (lv' := [(6, .int (nI (4 * b + k + 1))), (4, .int 0), (3, .int (nI B)), (7, .int (nI (ptsV f ln (4 * a + j) (4 * b + k)))), (0, .ref x), (1, .int (nI a)), (2, .int (nI b)), (5, .int (nI (4 * a + j)))]) hx hb d_Md_likeness_116 hl (k := 7) rfl (nI_1 (4 * b + k)) (by decide) rfl (fun ls hl => ?_)
                    refine lv_goto (tgt := 30) hx hb d_Md_likeness_119 (by decide) ?_
                    exact ih30  _ B false (k + 1) (by omega) (by omega) (fun q hq => (setA_ne hq).trans (hF3 q hq)) (by rw [mxTo, hB9]; exact if_neg (show ¬ B < ptsV f ln (4 * a + j) (4 * b + k) by omega)) (by rw [anyTo, ← Bool.or_assoc, hz9]; simp [samP, c89, c106]) (by omega) _ _ hI hS ls (lv_sub hl [4, 5, 6, 2, 1, 7, 0] rfl)
                  · skip
                    refine lv_iconst (v := 1) hx hb d_Md_likeness_109 (by decide) ?_
                    refine lv_goto (tgt := 114) hx hb d_Md_likeness_110 (by decide) ?_
                    refine lv_istore (lv' := [(4, .int 1), (3, .int (nI B)), (7, .int (nI (ptsV f ln (4 * a + j) (4 * b + k)))), (0, .ref x), (1, .int (nI a)), (2, .int (nI b)), (5, .int (nI (4 * a + j))), (6, .int (nI (4 * b + k)))]) hx hb d_Md_likeness_114 hl (by decide) rfl (fun ls hl => ?_)
                    refine lv_iinc (v := (nI (4 * b + k + 1))) (lv' := [(6, .int (nI (4 * b + k + 1))), (4, .int 1), (3, .int (nI B)), (7, .int (nI (ptsV f ln (4 * a + j) (4 * b + k)))), (0, .ref x), (1, .int (nI a)), (2, .int (nI b)), (5, .int (nI (4 * a + j)))]) hx hb d_Md_likeness_116 hl (k := 7) rfl (nI_1 (4 * b + k)) (by decide) rfl (fun ls hl => ?_)
                    refine lv_goto (tgt := 30) hx hb d_Md_likeness_119 (by decide) ?_
                    exact ih30  _ B true (k + 1) (by omega) (by omega) (fun q hq => (setA_ne hq).trans (hF3 q hq)) (by rw [mxTo, hB9]; exact if_neg (show ¬ B < ptsV f ln (4 * a + j) (4 * b + k) by omega)) (by rw [anyTo, ← Bool.or_assoc, hz9]; simp [samP, c89, c106]) (by omega) _ _ hI hS ls (lv_sub hl [4, 5, 6, 2, 1, 7, 0] rfl)
              · skip
                replace c77 : ¬ ((ptsV f ln (4 * a + j) (4 * b + k)) ≤ B) := fun z9 => c77 ((nI_leI (a := (ptsV f ln (4 * a + j) (4 * b + k))) (b := B) (by omega) (by omega)).mpr z9)
                refine lv_iload hx hb d_Md_likeness_80 (lv_at hl 0 rfl) ?_
                refine lv_goto (tgt := 86) hx hb d_Md_likeness_82 (by decide) ?_
                refine lv_istore_n (lv' := [(3, .int (nI (ptsV f ln (4 * a + j) (4 * b + k)))), (7, .int (nI (ptsV f ln (4 * a + j) (4 * b + k)))), (0, .ref x), (1, .int (nI a)), (2, .int (nI b)), (4, .int (bI z)), (5, .int (nI (4 * a + j))), (6, .int (nI (4 * b + k)))]) hx hb d_Md_likeness_86 rfl hl (by decide) rfl (fun ls hl => ?_)
                refine lv_iload hx hb d_Md_likeness_87 (lv_at hl 5 rfl) ?_
                refine lv_if_ne (x := (bI z)) (tgt := 109) hx hb d_Md_likeness_89 (by decide) (fun c89 => ?_) (fun c89 => ?_)
                · skip
                  replace c89 : z = true := bI_1 c89
                  refine lv_iconst (v := 1) hx hb d_Md_likeness_109 (by decide) ?_
                  refine lv_goto (tgt := 114) hx hb d_Md_likeness_110 (by decide) ?_
                  refine lv_istore (lv' := [(4, .int 1), (3, .int (nI (ptsV f ln (4 * a + j) (4 * b + k)))), (7, .int (nI (ptsV f ln (4 * a + j) (4 * b + k)))), (0, .ref x), (1, .int (nI a)), (2, .int (nI b)), (5, .int (nI (4 * a + j))), (6, .int (nI (4 * b + k)))]) hx hb d_Md_likeness_114 hl (by decide) rfl (fun ls hl => ?_)
                  refine lv_iinc (v := (nI (4 * b + k + 1))) (lv' := [(6, .int (nI (4 * b + k + 1))), (4, .int 1), (3, .int (nI (ptsV f ln (4 * a + j) (4 * b + k)))), (7, .int (nI (ptsV f ln (4 * a + j) (4 * b + k)))), (0, .ref x), (1, .int (nI a)), (2, .int (nI b)), (5, .int (nI (4 * a + j)))]) hx hb d_Md_likeness_116 hl (k := 7) rfl (nI_1 (4 * b + k)) (by decide) rfl (fun ls hl => ?_)
                  refine lv_goto (tgt := 30) hx hb d_Md_likeness_119 (by decide) ?_
                  exact ih30  _ (ptsV f ln (4 * a + j) (4 * b + k)) true (k + 1) (by omega) (by omega) (fun q hq => (setA_ne hq).trans (hF3 q hq)) (by rw [mxTo, hB9]; exact if_pos (show B < ptsV f ln (4 * a + j) (4 * b + k) by omega)) (by rw [anyTo, ← Bool.or_assoc, hz9]; simp [samP, c89]) (by omega) _ _ hI hS ls (lv_sub hl [4, 5, 6, 2, 1, 7, 0] rfl)
                · skip
                  replace c89 : z = false := bI_0 c89
                  refine lv_aload_n hx hb d_Md_likeness_92 rfl (lv_at hl 2 rfl) ?_
                  refine hx_get (v := .ref (g 4)) hx hb htg iMd hown hK hI.1 rfl 7 (by decide) (htg _ (gw_mem (i := 1005) (by decide +kernel) rfl)) (fun _ h9 => h9) rfl d_Md_likeness_93 ?_
                  refine lv_iload hx hb d_Md_likeness_96 (lv_at hl 6 rfl) ?_
                  refine hx_iald hx hb hK 0 (hI.2 4 (by decide)) rfl (show vp_in (nI (4 * a + j)) 96 from vp_in_nI (n := 4 * a + j) (by omega) (by decide)) d_Md_likeness_98 ?_
                  refine lv_eqi (y := ((setA F3 21 R) 4 (4 * a + j))) (show (setA F3 21 R) 4 (nI (4 * a + j)).toNatClampNeg = _ by rw [nI_clamp (by omega)]) ?_
                  refine lv_eqi (y := (f 4 (4 * a + j))) (by rw [setA_ne (by decide), hF3 4 (by decide)]) ?_
                  refine lv_aload_n hx hb d_Md_likeness_99 rfl (lv_at hl 2 rfl) ?_
                  refine hx_get (v := .ref (g 4)) hx hb htg iMd hown hK hI.1 rfl 7 (by decide) (htg _ (gw_mem (i := 1005) (by decide +kernel) rfl)) (fun _ h9 => h9) rfl d_Md_likeness_100 ?_
                  refine lv_iload hx hb d_Md_likeness_103 (lv_at hl 7 rfl) ?_
                  refine hx_iald hx hb hK 0 (hI.2 4 (by decide)) rfl (show vp_in (nI (4 * b + k)) 96 from vp_in_nI (n := 4 * b + k) (by omega) (by decide)) d_Md_likeness_105 ?_
                  refine lv_eqi (y := ((setA F3 21 R) 4 (4 * b + k))) (show (setA F3 21 R) 4 (nI (4 * b + k)).toNatClampNeg = _ by rw [nI_clamp (by omega)]) ?_
                  refine lv_eqi (y := (f 4 (4 * b + k))) (by rw [setA_ne (by decide), hF3 4 (by decide)]) ?_
                  refine lv_icmp_ne (x := (f 4 (4 * a + j))) (y := (f 4 (4 * b + k))) (tgt := 113) hx hb d_Md_likeness_106 (by decide) (fun c106 => ?_) (fun c106 => ?_)
                  · skip
                    refine lv_iconst (v := 0) hx hb d_Md_likeness_113 (by decide) ?_
                    refine lv_istore (lv' := [(4, .int 0), (3, .int (nI (ptsV f ln (4 * a + j) (4 * b + k)))), (7, .int (nI (ptsV f ln (4 * a + j) (4 * b + k)))), (0, .ref x), (1, .int (nI a)), (2, .int (nI b)), (5, .int (nI (4 * a + j))), (6, .int (nI (4 * b + k)))]) hx hb d_Md_likeness_114 hl (by decide) rfl (fun ls hl => ?_)
                    refine lv_iinc (v := (nI (4 * b + k + 1))) (lv' := [(6, .int (nI (4 * b + k + 1))), (4, .int 0), (3, .int (nI (ptsV f ln (4 * a + j) (4 * b + k)))), (7, .int (nI (ptsV f ln (4 * a + j) (4 * b + k)))), (0, .ref x), (1, .int (nI a)), (2, .int (nI b)), (5, .int (nI (4 * a + j)))]) hx hb d_Md_likeness_116 hl (k := 7) rfl (nI_1 (4 * b + k)) (by decide) rfl (fun ls hl => ?_)
                    refine lv_goto (tgt := 30) hx hb d_Md_likeness_119 (by decide) ?_
                    exact ih30  _ (ptsV f ln (4 * a + j) (4 * b + k)) false (k + 1) (by omega) (by omega) (fun q hq => (setA_ne hq).trans (hF3 q hq)) (by rw [mxTo, hB9]; exact if_pos (show B < ptsV f ln (4 * a + j) (4 * b + k) by omega)) (by rw [anyTo, ← Bool.or_assoc, hz9]; simp [samP, c89, c106]) (by omega) _ _ hI hS ls (lv_sub hl [4, 5, 6, 2, 1, 7, 0] rfl)
                  · skip
                    refine lv_iconst (v := 1) hx hb d_Md_likeness_109 (by decide) ?_
                    refine lv_goto (tgt := 114) hx hb d_Md_likeness_110 (by decide) ?_
                    refine lv_istore (lv' := [(4, .int 1), (3, .int (nI (ptsV f ln (4 * a + j) (4 * b + k)))), (7, .int (nI (ptsV f ln (4 * a + j) (4 * b + k)))), (0, .ref x), (1, .int (nI a)), (2, .int (nI b)), (5, .int (nI (4 * a + j))), (6, .int (nI (4 * b + k)))]) hx hb d_Md_likeness_114 hl (by decide) rfl (fun ls hl => ?_)
                    refine lv_iinc (v := (nI (4 * b + k + 1))) (lv' := [(6, .int (nI (4 * b + k + 1))), (4, .int 1), (3, .int (nI (ptsV f ln (4 * a + j) (4 * b + k)))), (7, .int (nI (ptsV f ln (4 * a + j) (4 * b + k)))), (0, .ref x), (1, .int (nI a)), (2, .int (nI b)), (5, .int (nI (4 * a + j)))]) hx hb d_Md_likeness_116 hl (k := 7) rfl (nI_1 (4 * b + k)) (by decide) rfl (fun ls hl => ?_)
                    refine lv_goto (tgt := 30) hx hb d_Md_likeness_119 (by decide) ?_
                    exact ih30  _ (ptsV f ln (4 * a + j) (4 * b + k)) true (k + 1) (by omega) (by omega) (fun q hq => (setA_ne hq).trans (hF3 q hq)) (by rw [mxTo, hB9]; exact if_pos (show B < ptsV f ln (4 * a + j) (4 * b + k) by omega)) (by rw [anyTo, ← Bool.or_assoc, hz9]; simp [samP, c89, c106]) (by omega) _ _ hI hS ls (lv_sub hl [4, 5, 6, 2, 1, 7, 0] rfl)
        exact loop30 ((mn b - 0) + 1) _ B0 z0 0 (Nat.lt_succ_self _) (Nat.zero_le _) hF2 rfl (by simp [anyTo]) hB240 _ _ hI hS ls (lv_sub hl [1, 2, 3, 4, 5, 6, 0] rfl)
  exact loop10 ((mn a - 0) + 1) f 0 false 0 (Nat.lt_succ_self _) (Nat.zero_le _) (fun _ _ => rfl) rfl rfl (Nat.zero_le _) _ _ hI hS ls (lv_sub hl [3, 4, 5, 2, 1, 0] rfl)
end
section
def lowP (a : Nat) (P : Nat → Bool) : Nat → Bool := fun b => decide (a < b) && P b
theorem any_low (a : Nat) (P : Nat → Bool) : ∀ m, m ≤ a + 1 → anyTo (lowP a P) m = false := by
  intro m
  induction m with
  | zero => intro _; rfl
  | succ m ih =>
    intro h
    show (anyTo (lowP a P) m || lowP a P m) = false
    rw [ih (by omega), lowP, decide_eq_false (by omega)]
    rfl
theorem agr.beg {F f : Nat → Nat → Int32} {mn : Nat → Nat} {a b : Nat} (h : agr F f) : begB F mn a b = begB f mn a b := by
  unfold begB
  have e : ∀ j, begP F a b j = begP f a b j := fun j => by funext k; unfold begP; rw [h.2.2.1]
  simp only [e]
def losP (f : Nat → Nat → Int32) (ln mn : Nat → Nat) (ls : Int32) (a : Nat) : Nat → Bool := fun b => !begB f mn a b && !decide (likeV f ln mn a b < ls)
def losB (f : Nat → Nat → Int32) (ln mn : Nat → Nat) (ls : Int32) (n : Nat) : Bool := anyTo (fun a => anyTo (lowP a (losP f ln mn ls a)) n) n
def y_Md_score : MethodName := ⟨"NameMergesModel", "score", "(II)I"⟩
abbrev w_Md_score : List Cond := Cond.code y_Md_score prog_7_method_13_code 3 (Option.some Jvm.ClassFile.FieldType.int) :: gw
theorem d_Md_score_0 : decode prog_7_method_13_code 0 = .ok (.aload_n 0, 1) := by decide +kernel
theorem d_Md_score_1 : decode prog_7_method_13_code 1 = .ok (.aload_n 0, 1) := by decide +kernel
theorem d_Md_score_2 : decode prog_7_method_13_code 2 = .ok (.iload_n 1, 1) := by decide +kernel
theorem d_Md_score_3 : decode prog_7_method_13_code 3 = .ok (.invokevirtual 92, 3) := by decide +kernel
theorem d_Md_score_6 : decode prog_7_method_13_code 6 = .ok (.ifCond .eq 15, 3) := by decide +kernel
theorem d_Md_score_9 : decode prog_7_method_13_code 9 = .ok (.aload_n 0, 1) := by decide +kernel
theorem d_Md_score_10 : decode prog_7_method_13_code 10 = .ok (.iload_n 2, 1) := by decide +kernel
theorem d_Md_score_11 : decode prog_7_method_13_code 11 = .ok (.invokevirtual 92, 3) := by decide +kernel
theorem d_Md_score_14 : decode prog_7_method_13_code 14 = .ok (.ifCond .eq 7, 3) := by decide +kernel
theorem d_Md_score_17 : decode prog_7_method_13_code 17 = .ok (.iconst 1, 1) := by decide +kernel
theorem d_Md_score_18 : decode prog_7_method_13_code 18 = .ok (.goto 4, 3) := by decide +kernel
theorem d_Md_score_21 : decode prog_7_method_13_code 21 = .ok (.iconst 0, 1) := by decide +kernel
theorem d_Md_score_22 : decode prog_7_method_13_code 22 = .ok (.iconst 1, 1) := by decide +kernel
theorem d_Md_score_23 : decode prog_7_method_13_code 23 = .ok (.iconst 1, 1) := by decide +kernel
theorem d_Md_score_24 : decode prog_7_method_13_code 24 = .ok (.invokevirtual 88, 3) := by decide +kernel
theorem d_Md_score_27 : decode prog_7_method_13_code 27 = .ok (.ifCond .eq 12, 3) := by decide +kernel
theorem d_Md_score_30 : decode prog_7_method_13_code 30 = .ok (.aload_n 0, 1) := by decide +kernel
theorem d_Md_score_31 : decode prog_7_method_13_code 31 = .ok (.iload_n 1, 1) := by decide +kernel
theorem d_Md_score_32 : decode prog_7_method_13_code 32 = .ok (.iload_n 2, 1) := by decide +kernel
theorem d_Md_score_33 : decode prog_7_method_13_code 33 = .ok (.invokevirtual 103, 3) := by decide +kernel
theorem d_Md_score_36 : decode prog_7_method_13_code 36 = .ok (.goto 4, 3) := by decide +kernel
theorem d_Md_score_39 : decode prog_7_method_13_code 39 = .ok (.iconst 0, 1) := by decide +kernel
theorem d_Md_score_40 : decode prog_7_method_13_code 40 = .ok (.ireturn, 1) := by decide +kernel
set_option maxHeartbeats 4000000 in
set_option maxRecDepth 100000 in
theorem c_Md_score (l : Launch) (D : va_G) (cs : Nat → ClassId) (N0 : Nat) (H : Heap) (x : Nat) (g : Nat → Nat) (i : Nat → Int32) (f : Nat → Nat → Int32) (qa qb : Int32) (hsep : md_sep N0 x g) (hI : md_I D cs H x g i f) (n : Nat) (hn : i 2 = nI n) (hn24 : n ≤ 24) (mn ln : Nat → Nat) (hV : wfV f mn ln) : Met l y_Md_score w_Md_score ({ frames := 2, cells := 0, slots := 0, locals := 52 }) (hPre D cs N0 [.ref x, .int qa, .int qb] H) (hQi (fun r H' => if goB (isN n qa && isN n qb) true true = true then (∃ R : Nat → Int32, md_I D cs H' x g (upd i 0 (goV (isN n qa && isN n qb) true true)) (setA f 21 R) ∧ r = likeV f ln mn (tn qa) (tn qb)) else (md_I D cs H' x g (upd i 0 (goV (isN n qa && isN n qb) true true)) f ∧ r = 0)) (md_A x g)) 0 0 (md_A x g) := by
  refine Met.ofW (cc := prog_7_method_13_code) (maxL := 3) (ret := (Option.some Jvm.ClassFile.FieldType.int)) (by decide) rfl ?_
  intro p e s m args below meth c s₁ B hml hv
  obtain ⟨rfl, rfl, hB⟩ := hv
  have hx := B.exec
  have hb := B.bytes
  have hr := B.returns
  have hts := atoms_spec (ws := w_Md_score) B.pre
  have htg : ∀ w ∈ gw, w.before _ s = true := fun w h => hts w (List.mem_cons_of_mem _ h)
  have hown : s.vm.findClass "NameMergesModel" = some m.cls := findClass_of_methodNamed B.named
  have hlocks := B.notSynchronized
  have hK := hB.1
  have hS : va_S (md_A x g) s.heap s.heap [] := va_S.rf
  obtain ⟨H, hH⟩ : ∃ z : Heap, z = s.heap := ⟨_, rfl⟩
  rw [← hH] at hI
  have hS : va_S (md_A x g) s.heap H [] := by rw [hH]; exact va_S.rf
  have hl := lv_entry ([.ref x, .int qa, .int qb]) (n := 3) (Nat.le_of_ble_eq_true rfl)
  rw [lg_entry_eq, ← hH]
  generalize (lg_sl ([.ref x, .int qa, .int qb]) ++ List.replicate (3 - (lg_sl ([.ref x, .int qa, .int qb])).length) Slot.unset).toArray = ls at hl ⊢
  have hl : lv_has ls 3 [(0, .ref x), (1, .int qa), (2, .int qb)] := hl
  refine lv_aload_n hx hb d_Md_score_0 rfl (lv_at hl 0 rfl) ?_
  refine lv_aload_n hx hb d_Md_score_1 rfl (lv_at hl 0 rfl) ?_
  refine lv_iload_n hx hb d_Md_score_2 rfl (lv_at hl 1 rfl) ?_
  refine h_calli (va_runV (As := [.int qa]) (rest := [.ref x]) ⟨hx, hb, hml, hown, htg⟩ (c_Md_isName l D cs N0 H x g i f qa hsep hI n hn) (cwV 1 htg (gw_V (gw_mem (i := 1108) (by decide +kernel) rfl) (gw_mem (i := 1110) (by decide +kernel) rfl) (gw_mem (i := 19) (by decide +kernel) rfl) (gw_mem (i := 38) (by decide +kernel) rfl) (gw_mem (i := 1111) (by decide +kernel) rfl)) rfl rfl rfl (by decide +kernel) ⟨Nat.le_of_ble_eq_true rfl, Nat.le_of_ble_eq_true rfl⟩) ⟨hPre.blind, hx_recv hK (ci := 0) rfl hI.1, hPre.at hB hS hsep.A⟩ rfl rfl hl.1 rfl (lv_room (Nat.le_of_ble_eq_true rfl)) d_Md_score_3 ⟨Nat.zero_le _, Nat.zero_le _⟩) hS (fun _ h => h) (fun r3 H locs hp hz hk hS => ?_)
  obtain ⟨hI, er3⟩ := hp
  refine lv_eqi (y := (bI (isN n qa))) er3 ?_
  refine lv_if_eq (x := (bI (isN n qa))) (tgt := 21) hx hb d_Md_score_6 (by decide) (fun c6 => ?_) (fun c6 => ?_)
  · skip
    replace c6 : (isN n qa) = false := bI_0 c6
    refine lv_iconst (v := 0) hx hb d_Md_score_21 (by decide) ?_
    refine lv_iconst (v := 1) hx hb d_Md_score_22 (by decide) ?_
    refine lv_iconst (v := 1) hx hb d_Md_score_23 (by decide) ?_
    refine h_calli (va_runV (As := [.int 0, .int 1, .int 1]) (rest := []) ⟨hx, hb, hml, hown, htg⟩ (c_Md_goes l D cs N0 H x g i f false true true hsep hI) (cwV 3 htg (gw_V (gw_mem (i := 1092) (by decide +kernel) rfl) (gw_mem (i := 1094) (by decide +kernel) rfl) (gw_mem (i := 18) (by decide +kernel) rfl) (gw_mem (i := 38) (by decide +kernel) rfl) (gw_mem (i := 1095) (by decide +kernel) rfl)) rfl rfl rfl (by decide +kernel) ⟨Nat.le_of_ble_eq_true rfl, Nat.le_of_ble_eq_true rfl⟩) ⟨hPre.blind, hx_recv hK (ci := 0) rfl hI.1, hPre.at hB hS hsep.A⟩ rfl rfl hl.1 rfl (lv_room (Nat.le_of_ble_eq_true rfl)) d_Md_score_24 ⟨Nat.zero_le _, Nat.zero_le _⟩) hS (fun _ h => h) (fun r24 H locs hp hz hk hS => ?_)
    obtain ⟨hI, er24⟩ := hp
    replace hI : md_I D cs H x g (upd i 0 1) f := hI
    refine lv_eqi (y := 0) er24 ?_
    refine lv_if_eq (x := 0) (tgt := 39) hx hb d_Md_score_27 (by decide) (fun c27 => ?_) (fun c27 => ?_)
    · skip
      refine lv_iconst (v := 0) hx hb d_Md_score_39 (by decide) ?_
      exact W.iret (v := 0) hx hb hr (fun t ht hW => ⟨⟨0, H, rfl, by dsimp only; have e0 : (isN n qa && isN n qb) = false := (by first | (simp [c6]; done) | (simp [c6]; omega) | omega | simp_all); rw [e0]; rw [if_neg (show ¬ goB false true true = true by simp [goB])]; exact ⟨hI, rfl⟩, ht⟩, hS.F ht⟩) hS.2.2 d_Md_score_40
    · exact absurd c27 (by decide)
  · skip
    replace c6 : (isN n qa) = true := bI_1 c6
    refine lv_aload_n hx hb d_Md_score_9 rfl (lv_at hl 0 rfl) ?_
    refine lv_iload_n hx hb d_Md_score_10 rfl (lv_at hl 2 rfl) ?_
    refine h_calli (va_runV (As := [.int qb]) (rest := [.ref x]) ⟨hx, hb, hml, hown, htg⟩ (c_Md_isName l D cs N0 H x g i f qb hsep hI n hn) (cwV 1 htg (gw_V (gw_mem (i := 1108) (by decide +kernel) rfl) (gw_mem (i := 1110) (by decide +kernel) rfl) (gw_mem (i := 19) (by decide +kernel) rfl) (gw_mem (i := 38) (by decide +kernel) rfl) (gw_mem (i := 1111) (by decide +kernel) rfl)) rfl rfl rfl (by decide +kernel) ⟨Nat.le_of_ble_eq_true rfl, Nat.le_of_ble_eq_true rfl⟩) ⟨hPre.blind, hx_recv hK (ci := 0) rfl hI.1, hPre.at hB hS hsep.A⟩ rfl rfl hl.1 rfl (lv_room (Nat.le_of_ble_eq_true rfl)) d_Md_score_11 ⟨Nat.zero_le _, Nat.zero_le _⟩) hS (fun _ h => h) (fun r11 H locs hp hz hk hS => ?_)
    obtain ⟨hI, er11⟩ := hp
    refine lv_eqi (y := (bI (isN n qb))) er11 ?_
    refine lv_if_eq (x := (bI (isN n qb))) (tgt := 21) hx hb d_Md_score_14 (by decide) (fun c14 => ?_) (fun c14 => ?_)
    · skip
      replace c14 : (isN n qb) = false := bI_0 c14
      refine lv_iconst (v := 0) hx hb d_Md_score_21 (by decide) ?_
      refine lv_iconst (v := 1) hx hb d_Md_score_22 (by decide) ?_
      refine lv_iconst (v := 1) hx hb d_Md_score_23 (by decide) ?_
      refine h_calli (va_runV (As := [.int 0, .int 1, .int 1]) (rest := []) ⟨hx, hb, hml, hown, htg⟩ (c_Md_goes l D cs N0 H x g i f false true true hsep hI) (cwV 3 htg (gw_V (gw_mem (i := 1092) (by decide +kernel) rfl) (gw_mem (i := 1094) (by decide +kernel) rfl) (gw_mem (i := 18) (by decide +kernel) rfl) (gw_mem (i := 38) (by decide +kernel) rfl) (gw_mem (i := 1095) (by decide +kernel) rfl)) rfl rfl rfl (by decide +kernel) ⟨Nat.le_of_ble_eq_true rfl, Nat.le_of_ble_eq_true rfl⟩) ⟨hPre.blind, hx_recv hK (ci := 0) rfl hI.1, hPre.at hB hS hsep.A⟩ rfl rfl hl.1 rfl (lv_room (Nat.le_of_ble_eq_true rfl)) d_Md_score_24 ⟨Nat.zero_le _, Nat.zero_le _⟩) hS (fun _ h => h) (fun r24 H locs hp hz hk hS => ?_)
      obtain ⟨hI, er24⟩ := hp
      replace hI : md_I D cs H x g (upd i 0 1) f := hI
      refine lv_eqi (y := 0) er24 ?_
      refine lv_if_eq (x := 0) (tgt := 39) hx hb d_Md_score_27 (by decide) (fun c27 => ?_) (fun c27 => ?_)
      · skip
        refine lv_iconst (v := 0) hx hb d_Md_score_39 (by decide) ?_
        exact W.iret (v := 0) hx hb hr (fun t ht hW => ⟨⟨0, H, rfl, by dsimp only; have e0 : (isN n qa && isN n qb) = false := (by first | (simp [c6, c14]; done) | (simp [c6, c14]; omega) | omega | simp_all); rw [e0]; rw [if_neg (show ¬ goB false true true = true by simp [goB])]; exact ⟨hI, rfl⟩, ht⟩, hS.F ht⟩) hS.2.2 d_Md_score_40
      · exact absurd c27 (by decide)
    · skip
      replace c14 : (isN n qb) = true := bI_1 c14
      refine lv_iconst (v := 1) hx hb d_Md_score_17 (by decide) ?_
      refine lv_goto (tgt := 22) hx hb d_Md_score_18 (by decide) ?_
      refine lv_iconst (v := 1) hx hb d_Md_score_22 (by decide) ?_
      refine lv_iconst (v := 1) hx hb d_Md_score_23 (by decide) ?_
      refine h_calli (va_runV (As := [.int 1, .int 1, .int 1]) (rest := []) ⟨hx, hb, hml, hown, htg⟩ (c_Md_goes l D cs N0 H x g i f true true true hsep hI) (cwV 3 htg (gw_V (gw_mem (i := 1092) (by decide +kernel) rfl) (gw_mem (i := 1094) (by decide +kernel) rfl) (gw_mem (i := 18) (by decide +kernel) rfl) (gw_mem (i := 38) (by decide +kernel) rfl) (gw_mem (i := 1095) (by decide +kernel) rfl)) rfl rfl rfl (by decide +kernel) ⟨Nat.le_of_ble_eq_true rfl, Nat.le_of_ble_eq_true rfl⟩) ⟨hPre.blind, hx_recv hK (ci := 0) rfl hI.1, hPre.at hB hS hsep.A⟩ rfl rfl hl.1 rfl (lv_room (Nat.le_of_ble_eq_true rfl)) d_Md_score_24 ⟨Nat.zero_le _, Nat.zero_le _⟩) hS (fun _ h => h) (fun r24 H locs hp hz hk hS => ?_)
      obtain ⟨hI, er24⟩ := hp
      replace hI : md_I D cs H x g (upd i 0 0) f := hI
      refine lv_eqi (y := 1) er24 ?_
      refine lv_if_eq (x := 1) (tgt := 39) hx hb d_Md_score_27 (by decide) (fun c27 => ?_) (fun c27 => ?_)
      · exact absurd c27 (by decide)
      · skip
        obtain ⟨ha, ea⟩ := isN_n c6 (by omega)
        obtain ⟨hb1, eb⟩ := isN_n c14 (by omega)
        refine lv_aload_n hx hb d_Md_score_30 rfl (lv_at hl 0 rfl) ?_
        refine lv_iload_n hx hb d_Md_score_31 rfl (lv_at hl 1 rfl) ?_
        refine lv_eqi (y := (nI (tn qa))) ea ?_
        refine lv_iload_n hx hb d_Md_score_32 rfl (lv_at hl 2 rfl) ?_
        refine lv_eqi (y := (nI (tn qb))) eb ?_
        refine h_calli (va_runV (As := [.int (nI (tn qa)), .int (nI (tn qb))]) (rest := []) ⟨hx, hb, hml, hown, htg⟩ (c_Md_likeness l D cs N0 H x g ((upd i 0 0)) f (tn qa) (tn qb) hsep hI mn ln ((agr.rf f).wf hV) (by omega) (by omega)) (cwV 2 htg (gw_V (gw_mem (i := 1124) (by decide +kernel) rfl) (gw_mem (i := 1126) (by decide +kernel) rfl) (gw_mem (i := 20) (by decide +kernel) rfl) (gw_mem (i := 38) (by decide +kernel) rfl) (gw_mem (i := 1127) (by decide +kernel) rfl)) rfl rfl rfl (by decide +kernel) ⟨Nat.le_of_ble_eq_true rfl, Nat.le_of_ble_eq_true rfl⟩) ⟨hPre.blind, hx_recv hK (ci := 0) rfl hI.1, hPre.at hB hS hsep.A⟩ rfl rfl hl.1 rfl (lv_room (Nat.le_of_ble_eq_true rfl)) d_Md_score_33 ⟨Nat.zero_le _, Nat.zero_le _⟩) hS (fun _ h => h) (fun r33 H locs hp hz hk hS => ?_)
        obtain ⟨R, hI, er33⟩ := hp
        refine lv_eqi (y := (likeV f ln mn (tn qa) (tn qb))) (er33.trans (agr.rf f).like) ?_
        refine lv_goto (tgt := 40) hx hb d_Md_score_36 (by decide) ?_
        exact W.iret (v := (likeV f ln mn (tn qa) (tn qb))) hx hb hr (fun t ht hW => ⟨⟨(likeV f ln mn (tn qa) (tn qb)), H, rfl, by dsimp only; have e0 : (isN n qa && isN n qb) = true := (by first | (simp [c6, c14]; done) | (simp [c6, c14]; omega) | omega | simp_all); rw [e0]; rw [if_pos (show goB true true true = true from rfl)]; exact ⟨R, hI, rfl⟩, ht⟩, hS.F ht⟩) hS.2.2 d_Md_score_40
def y_Md_lost : MethodName := ⟨"NameMergesModel", "lost", "(I)Z"⟩
abbrev w_Md_lost : List Cond := Cond.code y_Md_lost prog_7_method_18_code 5 (Option.some Jvm.ClassFile.FieldType.boolean) :: gw
theorem d_Md_lost_0 : decode prog_7_method_18_code 0 = .ok (.aload_n 0, 1) := by decide +kernel
theorem d_Md_lost_1 : decode prog_7_method_18_code 1 = .ok (.iconst 0, 1) := by decide +kernel
theorem d_Md_lost_2 : decode prog_7_method_18_code 2 = .ok (.putfield 77, 3) := by decide +kernel
theorem d_Md_lost_5 : decode prog_7_method_18_code 5 = .ok (.iconst 0, 1) := by decide +kernel
theorem d_Md_lost_6 : decode prog_7_method_18_code 6 = .ok (.istore_n 2, 1) := by decide +kernel
theorem d_Md_lost_7 : decode prog_7_method_18_code 7 = .ok (.iconst 0, 1) := by decide +kernel
theorem d_Md_lost_8 : decode prog_7_method_18_code 8 = .ok (.istore_n 3, 1) := by decide +kernel
theorem d_Md_lost_9 : decode prog_7_method_18_code 9 = .ok (.iload_n 3, 1) := by decide +kernel
theorem d_Md_lost_10 : decode prog_7_method_18_code 10 = .ok (.aload_n 0, 1) := by decide +kernel
theorem d_Md_lost_11 : decode prog_7_method_18_code 11 = .ok (.getfield 81, 3) := by decide +kernel
theorem d_Md_lost_14 : decode prog_7_method_18_code 14 = .ok (.if_icmp .ge 60, 3) := by decide +kernel
theorem d_Md_lost_17 : decode prog_7_method_18_code 17 = .ok (.iload_n 3, 1) := by decide +kernel
theorem d_Md_lost_18 : decode prog_7_method_18_code 18 = .ok (.iconst 1, 1) := by decide +kernel
theorem d_Md_lost_19 : decode prog_7_method_18_code 19 = .ok (.iadd, 1) := by decide +kernel
theorem d_Md_lost_20 : decode prog_7_method_18_code 20 = .ok (.istore 4, 2) := by decide +kernel
theorem d_Md_lost_22 : decode prog_7_method_18_code 22 = .ok (.iload 4, 2) := by decide +kernel
theorem d_Md_lost_24 : decode prog_7_method_18_code 24 = .ok (.aload_n 0, 1) := by decide +kernel
theorem d_Md_lost_25 : decode prog_7_method_18_code 25 = .ok (.getfield 81, 3) := by decide +kernel
theorem d_Md_lost_28 : decode prog_7_method_18_code 28 = .ok (.if_icmp .ge 40, 3) := by decide +kernel
theorem d_Md_lost_31 : decode prog_7_method_18_code 31 = .ok (.iload_n 2, 1) := by decide +kernel
theorem d_Md_lost_32 : decode prog_7_method_18_code 32 = .ok (.ifCond .ne 24, 3) := by decide +kernel
theorem d_Md_lost_35 : decode prog_7_method_18_code 35 = .ok (.aload_n 0, 1) := by decide +kernel
theorem d_Md_lost_36 : decode prog_7_method_18_code 36 = .ok (.iload_n 3, 1) := by decide +kernel
theorem d_Md_lost_37 : decode prog_7_method_18_code 37 = .ok (.iload 4, 2) := by decide +kernel
theorem d_Md_lost_39 : decode prog_7_method_18_code 39 = .ok (.invokevirtual 116, 3) := by decide +kernel
theorem d_Md_lost_42 : decode prog_7_method_18_code 42 = .ok (.ifCond .ne 18, 3) := by decide +kernel
theorem d_Md_lost_45 : decode prog_7_method_18_code 45 = .ok (.aload_n 0, 1) := by decide +kernel
theorem d_Md_lost_46 : decode prog_7_method_18_code 46 = .ok (.iload_n 3, 1) := by decide +kernel
theorem d_Md_lost_47 : decode prog_7_method_18_code 47 = .ok (.iload 4, 2) := by decide +kernel
theorem d_Md_lost_49 : decode prog_7_method_18_code 49 = .ok (.invokevirtual 103, 3) := by decide +kernel
theorem d_Md_lost_52 : decode prog_7_method_18_code 52 = .ok (.iload_n 1, 1) := by decide +kernel
theorem d_Md_lost_53 : decode prog_7_method_18_code 53 = .ok (.if_icmp .lt 7, 3) := by decide +kernel
theorem d_Md_lost_56 : decode prog_7_method_18_code 56 = .ok (.iconst 1, 1) := by decide +kernel
theorem d_Md_lost_57 : decode prog_7_method_18_code 57 = .ok (.goto 4, 3) := by decide +kernel
theorem d_Md_lost_60 : decode prog_7_method_18_code 60 = .ok (.iconst 0, 1) := by decide +kernel
theorem d_Md_lost_61 : decode prog_7_method_18_code 61 = .ok (.istore_n 2, 1) := by decide +kernel
theorem d_Md_lost_62 : decode prog_7_method_18_code 62 = .ok (.iinc 4 1, 3) := by decide +kernel
theorem d_Md_lost_65 : decode prog_7_method_18_code 65 = .ok (.goto (-43), 3) := by decide +kernel
theorem d_Md_lost_68 : decode prog_7_method_18_code 68 = .ok (.iinc 3 1, 3) := by decide +kernel
theorem d_Md_lost_71 : decode prog_7_method_18_code 71 = .ok (.goto (-62), 3) := by decide +kernel
theorem d_Md_lost_74 : decode prog_7_method_18_code 74 = .ok (.iload_n 2, 1) := by decide +kernel
theorem d_Md_lost_75 : decode prog_7_method_18_code 75 = .ok (.ireturn, 1) := by decide +kernel
set_option maxHeartbeats 4000000 in
set_option maxRecDepth 100000 in
theorem c_Md_lost (l : Launch) (D : va_G) (cs : Nat → ClassId) (N0 : Nat) (H : Heap) (x : Nat) (g : Nat → Nat) (i : Nat → Int32) (f : Nat → Nat → Int32) (lq : Int32) (hsep : md_sep N0 x g) (hI : md_I D cs H x g i f) (n : Nat) (hn : i 2 = nI n) (hn24 : n ≤ 24) (mn ln : Nat → Nat) (hV : wfV f mn ln) : Met l y_Md_lost w_Md_lost ({ frames := 2, cells := 0, slots := 0, locals := 52 }) (hPre D cs N0 [.ref x, .int lq] H) (hQi (fun r H' => ∃ R : Nat → Int32, md_I D cs H' x g (upd i 0 0) (setA f 21 R) ∧ r = bI (losB f ln mn lq n)) (md_A x g)) 0 0 (md_A x g) := by
  refine Met.ofW (cc := prog_7_method_18_code) (maxL := 5) (ret := (Option.some Jvm.ClassFile.FieldType.boolean)) (by decide) rfl ?_
  intro p e s m args below meth c s₁ B hml hv
  obtain ⟨rfl, rfl, hB⟩ := hv
  have hx := B.exec
  have hb := B.bytes
  have hr := B.returns
  have hts := atoms_spec (ws := w_Md_lost) B.pre
  have htg : ∀ w ∈ gw, w.before _ s = true := fun w h => hts w (List.mem_cons_of_mem _ h)
  have hown : s.vm.findClass "NameMergesModel" = some m.cls := findClass_of_methodNamed B.named
  have hlocks := B.notSynchronized
  have hK := hB.1
  have hS : va_S (md_A x g) s.heap s.heap [] := va_S.rf
  obtain ⟨H, hH⟩ : ∃ z : Heap, z = s.heap := ⟨_, rfl⟩
  rw [← hH] at hI
  have hS : va_S (md_A x g) s.heap H [] := by rw [hH]; exact va_S.rf
  have hl := lv_entry ([.ref x, .int lq]) (n := 5) (Nat.le_of_ble_eq_true rfl)
  rw [lg_entry_eq, ← hH]
  generalize (lg_sl ([.ref x, .int lq]) ++ List.replicate (5 - (lg_sl ([.ref x, .int lq])).length) Slot.unset).toArray = ls at hl ⊢
  have hl : lv_has ls 5 [(0, .ref x), (1, .int lq)] := hl
  refine lv_aload_n hx hb d_Md_lost_0 rfl (lv_at hl 0 rfl) ?_
  refine lv_iconst (v := 0) hx hb d_Md_lost_1 (by decide) ?_
  refine hx_put (ty := .int) (v := .int 0) hx hb htg iMd tMd tMd_ok nMd hown hK hI.1 hS (Or.inl rfl) rfl 0 (by decide) (htg _ (gw_mem (i := 998) (by decide +kernel) rfl)) (fun _ h9 => h9) rfl (by decide +kernel) rfl rfl (Nat.le_of_ble_eq_true rfl) d_Md_lost_2 (fun H locs hat hz ho hS => ?_)
  replace hI : md_I D cs H x g (upd i 0 (0)) f := md_I.puti hI hsep hat ho rfl
  refine lv_iconst (v := 0) hx hb d_Md_lost_5 (by decide) ?_
  refine lv_istore_n (lv' := [(2, .int 0), (0, .ref x), (1, .int lq)]) hx hb d_Md_lost_6 rfl hl (by decide) rfl (fun ls hl => ?_)
  refine lv_iconst (v := 0) hx hb d_Md_lost_7 (by decide) ?_
  refine lv_istore_n (lv' := [(3, .int 0), (2, .int 0), (0, .ref x), (1, .int lq)]) hx hb d_Md_lost_8 rfl hl (by decide) rfl (fun ls hl => ?_)
  have loop9 : ∀ (fuel : Nat) (F2 : Nat → Nat → Int32) (z0 : Bool) (a : Nat), n - a < fuel → (a ≤ n) → (∀ q, q ≠ 21 → F2 q = f q) → (anyTo (fun a => anyTo (lowP a (losP f ln mn lq a)) n) a = z0) → ∀ (H : Heap) (locs : List Loc), md_I D cs H x g (upd i 0 (0)) F2 → va_S (md_A x g) s.heap H locs → ∀ (ls : Array Slot), lv_has ls 5 [(0, .ref x), (1, .int lq), (2, .int (bI z0)), (3, .int (nI a))] → W p l e (headSpec w_Md_lost ({ frames := 2, cells := 0, slots := 0, locals := 52 })).room s m ([.ref x, .int lq] : List Value).toArray below meth c H locs 0 0 (MQ below (hQi (fun r H' => ∃ R : Nat → Int32, md_I D cs H' x g (upd i 0 0) (setA f 21 R) ∧ r = bI (losB f ln mn lq n)) (md_A x g)) ([.ref x, .int lq] : List Value).toArray s 0 0 (md_A x g)) (F0 m 9 ls []) := by
    intro fuel9
    induction fuel9 with
    | zero => intro F2 z0 a hn; exact absurd hn (Nat.not_lt_zero _)
    | succ fuel9 ih9 =>
      intro F2 z0 a hn9 ha hF2 hz0 H locs hI hS ls hl
      refine lv_iload_n hx hb d_Md_lost_9 rfl (lv_at hl 3 rfl) ?_
      refine lv_aload_n hx hb d_Md_lost_10 rfl (lv_at hl 0 rfl) ?_
      refine hx_get (v := .int (i 2)) hx hb htg iMd hown hK hI.1 rfl 3 (by decide) (htg _ (gw_mem (i := 1001) (by decide +kernel) rfl)) (fun _ h9 => h9) rfl d_Md_lost_11 ?_
      refine lv_eqi (y := (nI n)) hn ?_
      refine lv_icmp_ge (x := (nI a)) (y := (nI n)) (tgt := 74) hx hb d_Md_lost_14 (by decide) (fun c14 => ?_) (fun c14 => ?_)
      · skip
        replace c14 : n ≤ a := (nI_leI (a := n) (b := a) (by omega) (by omega)).mp c14
        refine lv_iload_n hx hb d_Md_lost_74 rfl (lv_at hl 2 rfl) ?_
        exact W.zret (v := (bI z0)) hx hb hr (bI_z _) (fun t ht hW => ⟨⟨(bI z0), H, rfl, ⟨F2 21, setA_of hF2 ▸ hI, by have e9 : a = n := (by omega); subst e9; rw [losB, hz0]⟩, ht⟩, hS.F ht⟩) hS.2.2 d_Md_lost_75
      · skip
        replace c14 : ¬ (n ≤ a) := fun z9 => c14 ((nI_leI (a := n) (b := a) (by omega) (by omega)).mpr z9)
        refine lv_iload_n hx hb d_Md_lost_17 rfl (lv_at hl 3 rfl) ?_
        refine lv_iconst (v := 1) hx hb d_Md_lost_18 (by decide) ?_
        refine lv_iadd (x := (nI a)) (y := 1) hx hb d_Md_lost_19 ?_
        refine lv_eqi (y := (nI (a + 1))) (nI_add a 1) ?_
        refine lv_istore (lv' := [(4, .int (nI (a + 1))), (0, .ref x), (1, .int lq), (2, .int (bI z0)), (3, .int (nI a))]) hx hb d_Md_lost_20 hl (by decide) rfl (fun ls hl => ?_)
        have loop22 : ∀ (fuel : Nat) (F3 : Nat → Nat → Int32) (z : Bool) (b : Nat), n - b < fuel → (b ≤ n) → (a < b) → (∀ q, q ≠ 21 → F3 q = f q) → ((z0 || anyTo (lowP a (losP f ln mn lq a)) b) = z) → ∀ (H : Heap) (locs : List Loc), md_I D cs H x g (upd i 0 (0)) F3 → va_S (md_A x g) s.heap H locs → ∀ (ls : Array Slot), lv_has ls 5 [(0, .ref x), (1, .int lq), (2, .int (bI z)), (3, .int (nI a)), (4, .int (nI b))] → W p l e (headSpec w_Md_lost ({ frames := 2, cells := 0, slots := 0, locals := 52 })).room s m ([.ref x, .int lq] : List Value).toArray below meth c H locs 0 0 (MQ below (hQi (fun r H' => ∃ R : Nat → Int32, md_I D cs H' x g (upd i 0 0) (setA f 21 R) ∧ r = bI (losB f ln mn lq n)) (md_A x g)) ([.ref x, .int lq] : List Value).toArray s 0 0 (md_A x g)) (F0 m 22 ls []) := by
          intro fuel22
          induction fuel22 with
          | zero => intro F3 z b hn; exact absurd hn (Nat.not_lt_zero _)
          | succ fuel22 ih22 =>
            intro F3 z b hn22 hb9 hab hF3 hz9 H locs hI hS ls hl
            refine lv_iload hx hb d_Md_lost_22 (lv_at hl 4 rfl) ?_
            refine lv_aload_n hx hb d_Md_lost_24 rfl (lv_at hl 0 rfl) ?_
            refine hx_get (v := .int (i 2)) hx hb htg iMd hown hK hI.1 rfl 3 (by decide) (htg _ (gw_mem (i := 1001) (by decide +kernel) rfl)) (fun _ h9 => h9) rfl d_Md_lost_25 ?_
            refine lv_eqi (y := (nI n)) hn ?_
            refine lv_icmp_ge (x := (nI b)) (y := (nI n)) (tgt := 68) hx hb d_Md_lost_28 (by decide) (fun c28 => ?_) (fun c28 => ?_)
            · skip
              replace c28 : n ≤ b := (nI_leI (a := n) (b := b) (by omega) (by omega)).mp c28
              refine lv_iinc (v := (nI (a + 1))) (lv' := [(3, .int (nI (a + 1))), (0, .ref x), (1, .int lq), (2, .int (bI z)), (4, .int (nI b))]) hx hb d_Md_lost_68 hl (k := 3) rfl (nI_1 a) (by decide) rfl (fun ls hl => ?_)
              refine lv_goto (tgt := 9) hx hb d_Md_lost_71 (by decide) ?_
              exact ih9  _ z (a + 1) (by omega) (by omega) hF3 (by rw [anyTo, hz0]; have e9 : b = n := (by omega); subst e9; exact hz9) _ _ hI hS ls (lv_sub hl [1, 2, 3, 0] rfl)
            · skip
              replace c28 : ¬ (n ≤ b) := fun z9 => c28 ((nI_leI (a := n) (b := b) (by omega) (by omega)).mpr z9)
              refine lv_iload_n hx hb d_Md_lost_31 rfl (lv_at hl 2 rfl) ?_
              refine lv_if_ne (x := (bI z)) (tgt := 56) hx hb d_Md_lost_32 (by decide) (fun c32 => ?_) (fun c32 => ?_)
              · skip
                replace c32 : z = true := bI_1 c32
                refine lv_iconst (v := 1) hx hb d_Md_lost_56 (by decide) ?_
                refine lv_goto (tgt := 61) hx hb d_Md_lost_57 (by decide) ?_
                refine lv_istore_n (lv' := [(2, .int 1), (0, .ref x), (1, .int lq), (3, .int (nI a)), (4, .int (nI b))]) hx hb d_Md_lost_61 rfl hl (by decide) rfl (fun ls hl => ?_)
                refine lv_iinc (v := (nI (b + 1))) (lv' := [(4, .int (nI (b + 1))), (2, .int 1), (0, .ref x), (1, .int lq), (3, .int (nI a))]) hx hb d_Md_lost_62 hl (k := 4) rfl (nI_1 b) (by decide) rfl (fun ls hl => ?_)
                refine lv_goto (tgt := 22) hx hb d_Md_lost_65 (by decide) ?_
                exact ih22  _ true (b + 1) (by omega) (by omega) (by omega) hF3 (by rw [anyTo, ← Bool.or_assoc, hz9]; simp [lowP, losP, hab, c32]) _ _ hI hS ls (lv_sub hl [2, 3, 1, 4, 0] rfl)
              · skip
                replace c32 : z = false := bI_0 c32
                refine lv_aload_n hx hb d_Md_lost_35 rfl (lv_at hl 0 rfl) ?_
                refine lv_iload_n hx hb d_Md_lost_36 rfl (lv_at hl 3 rfl) ?_
                refine lv_iload hx hb d_Md_lost_37 (lv_at hl 4 rfl) ?_
                refine h_calli (va_runV (As := [.int (nI a), .int (nI b)]) (rest := []) ⟨hx, hb, hml, hown, htg⟩ (c_Md_begin l D cs N0 H x g ((upd i 0 (0))) F3 a b hsep hI mn ((agr.of21 hF3).wf hV).1 (by omega) (by omega)) (cwV 2 htg (gw_V (gw_mem (i := 1148) (by decide +kernel) rfl) (gw_mem (i := 1150) (by decide +kernel) rfl) (gw_mem (i := 23) (by decide +kernel) rfl) (gw_mem (i := 38) (by decide +kernel) rfl) (gw_mem (i := 1151) (by decide +kernel) rfl)) rfl rfl rfl (by decide +kernel) ⟨Nat.le_of_ble_eq_true rfl, Nat.le_of_ble_eq_true rfl⟩) ⟨hPre.blind, hx_recv hK (ci := 0) rfl hI.1, hPre.at hB hS hsep.A⟩ rfl rfl hl.1 rfl (lv_room (Nat.le_of_ble_eq_true rfl)) d_Md_lost_39 ⟨Nat.zero_le _, Nat.zero_le _⟩) hS (fun _ h => h) (fun r39 H locs hp hz hk hS => ?_)
                obtain ⟨hI, er39⟩ := hp
                refine lv_eqi (y := (bI (begB f mn a b))) (er39.trans (by rw [(agr.of21 hF3).beg])) ?_
                refine lv_if_ne (x := (bI (begB f mn a b))) (tgt := 60) hx hb d_Md_lost_42 (by decide) (fun c42 => ?_) (fun c42 => ?_)
                · skip
                  replace c42 : (begB f mn a b) = true := bI_1 c42
                  refine lv_iconst (v := 0) hx hb d_Md_lost_60 (by decide) ?_
                  refine lv_istore_n (lv' := [(2, .int 0), (0, .ref x), (1, .int lq), (3, .int (nI a)), (4, .int (nI b))]) hx hb d_Md_lost_61 rfl hl (by decide) rfl (fun ls hl => ?_)
                  refine lv_iinc (v := (nI (b + 1))) (lv' := [(4, .int (nI (b + 1))), (2, .int 0), (0, .ref x), (1, .int lq), (3, .int (nI a))]) hx hb d_Md_lost_62 hl (k := 4) rfl (nI_1 b) (by decide) rfl (fun ls hl => ?_)
                  refine lv_goto (tgt := 22) hx hb d_Md_lost_65 (by decide) ?_
                  exact ih22  _ false (b + 1) (by omega) (by omega) (by omega) hF3 (by rw [anyTo, ← Bool.or_assoc, hz9]; simp [lowP, losP, hab, c32, c42]) _ _ hI hS ls (lv_sub hl [2, 3, 1, 4, 0] rfl)
                · skip
                  replace c42 : (begB f mn a b) = false := bI_0 c42
                  refine lv_aload_n hx hb d_Md_lost_45 rfl (lv_at hl 0 rfl) ?_
                  refine lv_iload_n hx hb d_Md_lost_46 rfl (lv_at hl 3 rfl) ?_
                  refine lv_iload hx hb d_Md_lost_47 (lv_at hl 4 rfl) ?_
                  refine h_calli (va_runV (As := [.int (nI a), .int (nI b)]) (rest := []) ⟨hx, hb, hml, hown, htg⟩ (c_Md_likeness l D cs N0 H x g ((upd i 0 (0))) F3 a b hsep hI mn ln ((agr.of21 hF3).wf hV) (by omega) (by omega)) (cwV 2 htg (gw_V (gw_mem (i := 1124) (by decide +kernel) rfl) (gw_mem (i := 1126) (by decide +kernel) rfl) (gw_mem (i := 20) (by decide +kernel) rfl) (gw_mem (i := 38) (by decide +kernel) rfl) (gw_mem (i := 1127) (by decide +kernel) rfl)) rfl rfl rfl (by decide +kernel) ⟨Nat.le_of_ble_eq_true rfl, Nat.le_of_ble_eq_true rfl⟩) ⟨hPre.blind, hx_recv hK (ci := 0) rfl hI.1, hPre.at hB hS hsep.A⟩ rfl rfl hl.1 rfl (lv_room (Nat.le_of_ble_eq_true rfl)) d_Md_lost_49 ⟨Nat.zero_le _, Nat.zero_le _⟩) hS (fun _ h => h) (fun r49 H locs hp hz hk hS => ?_)
                  obtain ⟨R, hI, er49⟩ := hp
                  refine lv_eqi (y := (likeV f ln mn a b)) (er49.trans (agr.of21 hF3).like) ?_
                  refine lv_iload_n hx hb d_Md_lost_52 rfl (lv_at hl 1 rfl) ?_
                  refine lv_icmp_lt (x := (likeV f ln mn a b)) (y := lq) (tgt := 60) hx hb d_Md_lost_53 (by decide) (fun c53 => ?_) (fun c53 => ?_)
                  · skip
                    refine lv_iconst (v := 0) hx hb d_Md_lost_60 (by decide) ?_
                    refine lv_istore_n (lv' := [(2, .int 0), (0, .ref x), (1, .int lq), (3, .int (nI a)), (4, .int (nI b))]) hx hb d_Md_lost_61 rfl hl (by decide) rfl (fun ls hl => ?_)
                    refine lv_iinc (v := (nI (b + 1))) (lv' := [(4, .int (nI (b + 1))), (2, .int 0), (0, .ref x), (1, .int lq), (3, .int (nI a))]) hx hb d_Md_lost_62 hl (k := 4) rfl (nI_1 b) (by decide) rfl (fun ls hl => ?_)
                    refine lv_goto (tgt := 22) hx hb d_Md_lost_65 (by decide) ?_
                    exact ih22  _ false (b + 1) (by omega) (by omega) (by omega) (fun q hq => (setA_ne hq).trans (hF3 q hq)) (by rw [anyTo, ← Bool.or_assoc, hz9]; simp [lowP, losP, hab, c32, c42, c53]) _ _ hI hS ls (lv_sub hl [2, 3, 1, 4, 0] rfl)
                  · skip
                    refine lv_iconst (v := 1) hx hb d_Md_lost_56 (by decide) ?_
                    refine lv_goto (tgt := 61) hx hb d_Md_lost_57 (by decide) ?_
                    refine lv_istore_n (lv' := [(2, .int 1), (0, .ref x), (1, .int lq), (3, .int (nI a)), (4, .int (nI b))]) hx hb d_Md_lost_61 rfl hl (by decide) rfl (fun ls hl => ?_)
                    refine lv_iinc (v := (nI (b + 1))) (lv' := [(4, .int (nI (b + 1))), (2, .int 1), (0, .ref x), (1, .int lq), (3, .int (nI a))]) hx hb d_Md_lost_62 hl (k := 4) rfl (nI_1 b) (by decide) rfl (fun ls hl => ?_)
                    refine lv_goto (tgt := 22) hx hb d_Md_lost_65 (by decide) ?_
                    exact ih22  _ true (b + 1) (by omega) (by omega) (by omega) (fun q hq => (setA_ne hq).trans (hF3 q hq)) (by rw [anyTo, ← Bool.or_assoc, hz9]; simp [lowP, losP, hab, c32, c42, c53]) _ _ hI hS ls (lv_sub hl [2, 3, 1, 4, 0] rfl)
        exact loop22 ((n - (a + 1)) + 1) _ z0 (a + 1) (Nat.lt_succ_self _) (by omega) (by omega) hF2 (by rw [any_low _ _ _ (Nat.le_refl _)]; simp) _ _ hI hS ls (lv_sub hl [1, 2, 3, 4, 0] rfl)
  exact loop9 ((n - 0) + 1) f false 0 (Nat.lt_succ_self _) (Nat.zero_le _) (fun _ _ => rfl) rfl _ _ hI hS ls (lv_sub hl [2, 3, 1, 0] rfl)
theorem updA_setA3 {f : Nat → Nat → Int32} {k j : Nat} {R : Nat → Int32} {v : Int32} : updA (setA f k R) k j v = setA f k (upd R j v) := by
  funext a
  by_cases e : a = k
  · subst e; rw [updA_self, setA_self, setA_self]
  · rw [updA_ne e, setA_ne e, setA_ne e]
def y_Md_variant : MethodName := ⟨"NameMergesModel", "variant", "(IIII)I"⟩
abbrev w_Md_variant : List Cond := Cond.code y_Md_variant prog_7_method_9_code 8 (Option.some Jvm.ClassFile.FieldType.int) :: gw
theorem d_Md_variant_0 : decode prog_7_method_9_code 0 = .ok (.aload_n 0, 1) := by decide +kernel
theorem d_Md_variant_1 : decode prog_7_method_9_code 1 = .ok (.iload_n 1, 1) := by decide +kernel
theorem d_Md_variant_2 : decode prog_7_method_9_code 2 = .ok (.invokevirtual 92, 3) := by decide +kernel
theorem d_Md_variant_5 : decode prog_7_method_9_code 5 = .ok (.istore 5, 2) := by decide +kernel
theorem d_Md_variant_7 : decode prog_7_method_9_code 7 = .ok (.aload_n 0, 1) := by decide +kernel
theorem d_Md_variant_8 : decode prog_7_method_9_code 8 = .ok (.iload 5, 2) := by decide +kernel
theorem d_Md_variant_10 : decode prog_7_method_9_code 10 = .ok (.iload 5, 2) := by decide +kernel
theorem d_Md_variant_12 : decode prog_7_method_9_code 12 = .ok (.ifCond .eq 24, 3) := by decide +kernel
theorem d_Md_variant_15 : decode prog_7_method_9_code 15 = .ok (.aload_n 0, 1) := by decide +kernel
theorem d_Md_variant_16 : decode prog_7_method_9_code 16 = .ok (.getfield 13, 3) := by decide +kernel
theorem d_Md_variant_19 : decode prog_7_method_9_code 19 = .ok (.iload_n 1, 1) := by decide +kernel
theorem d_Md_variant_20 : decode prog_7_method_9_code 20 = .ok (.iaload, 1) := by decide +kernel
theorem d_Md_variant_21 : decode prog_7_method_9_code 21 = .ok (.iconst 4, 1) := by decide +kernel
theorem d_Md_variant_22 : decode prog_7_method_9_code 22 = .ok (.if_icmp .ge 14, 3) := by decide +kernel
theorem d_Md_variant_25 : decode prog_7_method_9_code 25 = .ok (.aload_n 0, 1) := by decide +kernel
theorem d_Md_variant_26 : decode prog_7_method_9_code 26 = .ok (.getfield 85, 3) := by decide +kernel
theorem d_Md_variant_29 : decode prog_7_method_9_code 29 = .ok (.ifCond .le 7, 3) := by decide +kernel
theorem d_Md_variant_32 : decode prog_7_method_9_code 32 = .ok (.iconst 1, 1) := by decide +kernel
theorem d_Md_variant_33 : decode prog_7_method_9_code 33 = .ok (.goto 4, 3) := by decide +kernel
theorem d_Md_variant_36 : decode prog_7_method_9_code 36 = .ok (.iconst 0, 1) := by decide +kernel
theorem d_Md_variant_37 : decode prog_7_method_9_code 37 = .ok (.iload_n 2, 1) := by decide +kernel
theorem d_Md_variant_38 : decode prog_7_method_9_code 38 = .ok (.ifCond .lt 33, 3) := by decide +kernel
theorem d_Md_variant_41 : decode prog_7_method_9_code 41 = .ok (.iload_n 2, 1) := by decide +kernel
theorem d_Md_variant_42 : decode prog_7_method_9_code 42 = .ok (.iconst 5, 1) := by decide +kernel
theorem d_Md_variant_43 : decode prog_7_method_9_code 43 = .ok (.if_icmp .gt 28, 3) := by decide +kernel
theorem d_Md_variant_46 : decode prog_7_method_9_code 46 = .ok (.iload_n 3, 1) := by decide +kernel
theorem d_Md_variant_47 : decode prog_7_method_9_code 47 = .ok (.invokestatic 96, 3) := by decide +kernel
theorem d_Md_variant_50 : decode prog_7_method_9_code 50 = .ok (.ifCond .eq 21, 3) := by decide +kernel
theorem d_Md_variant_53 : decode prog_7_method_9_code 53 = .ok (.iload 4, 2) := by decide +kernel
theorem d_Md_variant_55 : decode prog_7_method_9_code 55 = .ok (.invokestatic 96, 3) := by decide +kernel
theorem d_Md_variant_58 : decode prog_7_method_9_code 58 = .ok (.ifCond .eq 13, 3) := by decide +kernel
theorem d_Md_variant_61 : decode prog_7_method_9_code 61 = .ok (.iload_n 3, 1) := by decide +kernel
theorem d_Md_variant_62 : decode prog_7_method_9_code 62 = .ok (.iload 4, 2) := by decide +kernel
theorem d_Md_variant_64 : decode prog_7_method_9_code 64 = .ok (.if_icmp .gt 7, 3) := by decide +kernel
theorem d_Md_variant_67 : decode prog_7_method_9_code 67 = .ok (.iconst 1, 1) := by decide +kernel
theorem d_Md_variant_68 : decode prog_7_method_9_code 68 = .ok (.goto 4, 3) := by decide +kernel
theorem d_Md_variant_71 : decode prog_7_method_9_code 71 = .ok (.iconst 0, 1) := by decide +kernel
theorem d_Md_variant_72 : decode prog_7_method_9_code 72 = .ok (.invokevirtual 88, 3) := by decide +kernel
theorem d_Md_variant_75 : decode prog_7_method_9_code 75 = .ok (.ifCond .ne 5, 3) := by decide +kernel
theorem d_Md_variant_78 : decode prog_7_method_9_code 78 = .ok (.iconst 0, 1) := by decide +kernel
theorem d_Md_variant_79 : decode prog_7_method_9_code 79 = .ok (.ireturn, 1) := by decide +kernel
theorem d_Md_variant_80 : decode prog_7_method_9_code 80 = .ok (.iconst 4, 1) := by decide +kernel
theorem d_Md_variant_81 : decode prog_7_method_9_code 81 = .ok (.iload_n 1, 1) := by decide +kernel
theorem d_Md_variant_82 : decode prog_7_method_9_code 82 = .ok (.imul, 1) := by decide +kernel
theorem d_Md_variant_83 : decode prog_7_method_9_code 83 = .ok (.aload_n 0, 1) := by decide +kernel
theorem d_Md_variant_84 : decode prog_7_method_9_code 84 = .ok (.getfield 13, 3) := by decide +kernel
theorem d_Md_variant_87 : decode prog_7_method_9_code 87 = .ok (.iload_n 1, 1) := by decide +kernel
theorem d_Md_variant_88 : decode prog_7_method_9_code 88 = .ok (.iaload, 1) := by decide +kernel
theorem d_Md_variant_89 : decode prog_7_method_9_code 89 = .ok (.iadd, 1) := by decide +kernel
theorem d_Md_variant_90 : decode prog_7_method_9_code 90 = .ok (.istore 6, 2) := by decide +kernel
theorem d_Md_variant_92 : decode prog_7_method_9_code 92 = .ok (.aload_n 0, 1) := by decide +kernel
theorem d_Md_variant_93 : decode prog_7_method_9_code 93 = .ok (.getfield 16, 3) := by decide +kernel
theorem d_Md_variant_96 : decode prog_7_method_9_code 96 = .ok (.iload 6, 2) := by decide +kernel
theorem d_Md_variant_98 : decode prog_7_method_9_code 98 = .ok (.aload_n 0, 1) := by decide +kernel
theorem d_Md_variant_99 : decode prog_7_method_9_code 99 = .ok (.getfield 85, 3) := by decide +kernel
theorem d_Md_variant_102 : decode prog_7_method_9_code 102 = .ok (.iastore, 1) := by decide +kernel
theorem d_Md_variant_103 : decode prog_7_method_9_code 103 = .ok (.iconst 0, 1) := by decide +kernel
theorem d_Md_variant_104 : decode prog_7_method_9_code 104 = .ok (.istore 7, 2) := by decide +kernel
theorem d_Md_variant_106 : decode prog_7_method_9_code 106 = .ok (.iload 7, 2) := by decide +kernel
theorem d_Md_variant_108 : decode prog_7_method_9_code 108 = .ok (.aload_n 0, 1) := by decide +kernel
theorem d_Md_variant_109 : decode prog_7_method_9_code 109 = .ok (.getfield 85, 3) := by decide +kernel
theorem d_Md_variant_112 : decode prog_7_method_9_code 112 = .ok (.if_icmp .ge 29, 3) := by decide +kernel
theorem d_Md_variant_115 : decode prog_7_method_9_code 115 = .ok (.aload_n 0, 1) := by decide +kernel
theorem d_Md_variant_116 : decode prog_7_method_9_code 116 = .ok (.getfield 19, 3) := by decide +kernel
theorem d_Md_variant_119 : decode prog_7_method_9_code 119 = .ok (.bipush 12, 2) := by decide +kernel
theorem d_Md_variant_121 : decode prog_7_method_9_code 121 = .ok (.iload 6, 2) := by decide +kernel
theorem d_Md_variant_123 : decode prog_7_method_9_code 123 = .ok (.imul, 1) := by decide +kernel
theorem d_Md_variant_124 : decode prog_7_method_9_code 124 = .ok (.iload 7, 2) := by decide +kernel
theorem d_Md_variant_126 : decode prog_7_method_9_code 126 = .ok (.iadd, 1) := by decide +kernel
theorem d_Md_variant_127 : decode prog_7_method_9_code 127 = .ok (.aload_n 0, 1) := by decide +kernel
theorem d_Md_variant_128 : decode prog_7_method_9_code 128 = .ok (.getfield 7, 3) := by decide +kernel
theorem d_Md_variant_131 : decode prog_7_method_9_code 131 = .ok (.iload 7, 2) := by decide +kernel
theorem d_Md_variant_133 : decode prog_7_method_9_code 133 = .ok (.iaload, 1) := by decide +kernel
theorem d_Md_variant_134 : decode prog_7_method_9_code 134 = .ok (.iastore, 1) := by decide +kernel
theorem d_Md_variant_135 : decode prog_7_method_9_code 135 = .ok (.iinc 7 1, 3) := by decide +kernel
theorem d_Md_variant_138 : decode prog_7_method_9_code 138 = .ok (.goto (-32), 3) := by decide +kernel
theorem d_Md_variant_141 : decode prog_7_method_9_code 141 = .ok (.aload_n 0, 1) := by decide +kernel
theorem d_Md_variant_142 : decode prog_7_method_9_code 142 = .ok (.getfield 22, 3) := by decide +kernel
theorem d_Md_variant_145 : decode prog_7_method_9_code 145 = .ok (.iload 6, 2) := by decide +kernel
theorem d_Md_variant_147 : decode prog_7_method_9_code 147 = .ok (.iload_n 2, 1) := by decide +kernel
theorem d_Md_variant_148 : decode prog_7_method_9_code 148 = .ok (.iastore, 1) := by decide +kernel
theorem d_Md_variant_149 : decode prog_7_method_9_code 149 = .ok (.aload_n 0, 1) := by decide +kernel
theorem d_Md_variant_150 : decode prog_7_method_9_code 150 = .ok (.getfield 25, 3) := by decide +kernel
theorem d_Md_variant_153 : decode prog_7_method_9_code 153 = .ok (.iload 6, 2) := by decide +kernel
theorem d_Md_variant_155 : decode prog_7_method_9_code 155 = .ok (.iload_n 3, 1) := by decide +kernel
theorem d_Md_variant_156 : decode prog_7_method_9_code 156 = .ok (.iastore, 1) := by decide +kernel
theorem d_Md_variant_157 : decode prog_7_method_9_code 157 = .ok (.aload_n 0, 1) := by decide +kernel
theorem d_Md_variant_158 : decode prog_7_method_9_code 158 = .ok (.getfield 28, 3) := by decide +kernel
theorem d_Md_variant_161 : decode prog_7_method_9_code 161 = .ok (.iload 6, 2) := by decide +kernel
theorem d_Md_variant_163 : decode prog_7_method_9_code 163 = .ok (.iload 4, 2) := by decide +kernel
theorem d_Md_variant_165 : decode prog_7_method_9_code 165 = .ok (.iastore, 1) := by decide +kernel
theorem d_Md_variant_166 : decode prog_7_method_9_code 166 = .ok (.aload_n 0, 1) := by decide +kernel
theorem d_Md_variant_167 : decode prog_7_method_9_code 167 = .ok (.getfield 13, 3) := by decide +kernel
theorem d_Md_variant_170 : decode prog_7_method_9_code 170 = .ok (.iload_n 1, 1) := by decide +kernel
theorem d_Md_variant_171 : decode prog_7_method_9_code 171 = .ok (.dup2, 1) := by decide +kernel
theorem d_Md_variant_172 : decode prog_7_method_9_code 172 = .ok (.iaload, 1) := by decide +kernel
theorem d_Md_variant_173 : decode prog_7_method_9_code 173 = .ok (.iconst 1, 1) := by decide +kernel
theorem d_Md_variant_174 : decode prog_7_method_9_code 174 = .ok (.iadd, 1) := by decide +kernel
theorem d_Md_variant_175 : decode prog_7_method_9_code 175 = .ok (.iastore, 1) := by decide +kernel
theorem d_Md_variant_176 : decode prog_7_method_9_code 176 = .ok (.aload_n 0, 1) := by decide +kernel
theorem d_Md_variant_177 : decode prog_7_method_9_code 177 = .ok (.iconst 0, 1) := by decide +kernel
theorem d_Md_variant_178 : decode prog_7_method_9_code 178 = .ok (.putfield 85, 3) := by decide +kernel
theorem d_Md_variant_181 : decode prog_7_method_9_code 181 = .ok (.aload_n 0, 1) := by decide +kernel
theorem d_Md_variant_182 : decode prog_7_method_9_code 182 = .ok (.getfield 13, 3) := by decide +kernel
theorem d_Md_variant_185 : decode prog_7_method_9_code 185 = .ok (.iload_n 1, 1) := by decide +kernel
theorem d_Md_variant_186 : decode prog_7_method_9_code 186 = .ok (.iaload, 1) := by decide +kernel
theorem d_Md_variant_187 : decode prog_7_method_9_code 187 = .ok (.ireturn, 1) := by decide +kernel
set_option maxHeartbeats 4000000 in
set_option maxRecDepth 100000 in
theorem c_Md_variant (l : Launch) (D : va_G) (cs : Nat → ClassId) (N0 : Nat) (H : Heap) (x : Nat) (g : Nat → Nat) (i : Nat → Int32) (f : Nat → Nat → Int32) (q lg fr to : Int32) (hsep : md_sep N0 x g) (hI : md_I D cs H x g i f) (n : Nat) (hn : i 2 = nI n) (hn24 : n ≤ 24) (pn : Nat) (hpn : i 1 = nI pn) (hp12 : pn ≤ 12) (mn : Nat → Nat) (hm : ∀ a, a < 24 → f 1 a = nI (mn a) ∧ mn a ≤ 4) : Met l y_Md_variant w_Md_variant ({ frames := 1, cells := 0, slots := 0, locals := 23 }) (hPre D cs N0 [.ref x, .int q, .int lg, .int fr, .int to] H) (hQi (fun r H' => if goB (isN n q) (isN n q && !decide (4 ≤ mn (tn q)) && !decide (pn ≤ 0)) (!decide (lg < 0) && !decide (5 < lg) && isD fr && isD to && !decide (to < fr)) = true then (∃ S3 : Nat → Int32, md_I D cs H' x g (upd (upd i 0 (goV (isN n q) (isN n q && !decide (4 ≤ mn (tn q)) && !decide (pn ≤ 0)) (!decide (lg < 0) && !decide (5 < lg) && isD fr && isD to && !decide (to < fr)))) 1 0) (updA (updA (updA (updA (setA (updA f 2 (4 * tn q + mn (tn q)) (nI pn)) 3 S3) 4 (4 * tn q + mn (tn q)) lg) 5 (4 * tn q + mn (tn q)) fr) 6 (4 * tn q + mn (tn q)) to) 1 (tn q) (nI (mn (tn q) + 1))) ∧ (∀ j, j < pn → S3 (12 * (4 * tn q + mn (tn q)) + j) = f 0 j) ∧ (∀ j, (j < 12 * (4 * tn q + mn (tn q)) ∨ 12 * (4 * tn q + mn (tn q)) + pn ≤ j) → S3 j = f 3 j) ∧ r = nI (mn (tn q) + 1)) else (md_I D cs H' x g (upd i 0 (goV (isN n q) (isN n q && !decide (4 ≤ mn (tn q)) && !decide (pn ≤ 0)) (!decide (lg < 0) && !decide (5 < lg) && isD fr && isD to && !decide (to < fr)))) f ∧ r = 0)) (md_A x g)) 0 0 (md_A x g) := by
  refine Met.ofW (cc := prog_7_method_9_code) (maxL := 8) (ret := (Option.some Jvm.ClassFile.FieldType.int)) (by decide) rfl ?_
  intro p e s m args below meth c s₁ B hml hv
  obtain ⟨rfl, rfl, hB⟩ := hv
  have hx := B.exec
  have hb := B.bytes
  have hr := B.returns
  have hts := atoms_spec (ws := w_Md_variant) B.pre
  have htg : ∀ w ∈ gw, w.before _ s = true := fun w h => hts w (List.mem_cons_of_mem _ h)
  have hown : s.vm.findClass "NameMergesModel" = some m.cls := findClass_of_methodNamed B.named
  have hlocks := B.notSynchronized
  have hK := hB.1
  have hS : va_S (md_A x g) s.heap s.heap [] := va_S.rf
  obtain ⟨H, hH⟩ : ∃ z : Heap, z = s.heap := ⟨_, rfl⟩
  rw [← hH] at hI
  have hS : va_S (md_A x g) s.heap H [] := by rw [hH]; exact va_S.rf
  have hl := lv_entry ([.ref x, .int q, .int lg, .int fr, .int to]) (n := 8) (Nat.le_of_ble_eq_true rfl)
  rw [lg_entry_eq, ← hH]
  generalize (lg_sl ([.ref x, .int q, .int lg, .int fr, .int to]) ++ List.replicate (8 - (lg_sl ([.ref x, .int q, .int lg, .int fr, .int to])).length) Slot.unset).toArray = ls at hl ⊢
  have hl : lv_has ls 8 [(0, .ref x), (1, .int q), (2, .int lg), (3, .int fr), (4, .int to)] := hl
  refine lv_aload_n hx hb d_Md_variant_0 rfl (lv_at hl 0 rfl) ?_
  refine lv_iload_n hx hb d_Md_variant_1 rfl (lv_at hl 1 rfl) ?_
  refine h_calli (va_runV (As := [.int q]) (rest := []) ⟨hx, hb, hml, hown, htg⟩ (c_Md_isName l D cs N0 H x g i f q hsep hI n hn) (cwV 1 htg (gw_V (gw_mem (i := 1108) (by decide +kernel) rfl) (gw_mem (i := 1110) (by decide +kernel) rfl) (gw_mem (i := 19) (by decide +kernel) rfl) (gw_mem (i := 38) (by decide +kernel) rfl) (gw_mem (i := 1111) (by decide +kernel) rfl)) rfl rfl rfl (by decide +kernel) ⟨Nat.le_of_ble_eq_true rfl, Nat.le_of_ble_eq_true rfl⟩) ⟨hPre.blind, hx_recv hK (ci := 0) rfl hI.1, hPre.at hB hS hsep.A⟩ rfl rfl hl.1 rfl (lv_room (Nat.le_of_ble_eq_true rfl)) d_Md_variant_2 ⟨Nat.zero_le _, Nat.zero_le _⟩) hS (fun _ h => h) (fun r2 H locs hp hz hk hS => ?_)
  obtain ⟨hI, er2⟩ := hp
  refine lv_eqi (y := (bI (isN n q))) er2 ?_
  refine lv_istore (lv' := [(5, .int (bI (isN n q))), (0, .ref x), (1, .int q), (2, .int lg), (3, .int fr), (4, .int to)]) hx hb d_Md_variant_5 hl (by decide) rfl (fun ls hl => ?_)
  refine lv_aload_n hx hb d_Md_variant_7 rfl (lv_at hl 1 rfl) ?_
  refine lv_iload hx hb d_Md_variant_8 (lv_at hl 0 rfl) ?_
  refine lv_iload hx hb d_Md_variant_10 (lv_at hl 0 rfl) ?_
  refine lv_if_eq (x := (bI (isN n q))) (tgt := 36) hx hb d_Md_variant_12 (by decide) (fun c12 => ?_) (fun c12 => ?_)
  · skip
    replace c12 : (isN n q) = false := bI_0 c12
    refine lv_iconst (v := 0) hx hb d_Md_variant_36 (by decide) ?_
    refine lv_iload_n hx hb d_Md_variant_37 rfl (lv_at hl 3 rfl) ?_
    refine lv_if_lt (x := lg) (tgt := 71) hx hb d_Md_variant_38 (by decide) (fun c38 => ?_) (fun c38 => ?_)
    · skip
      refine lv_iconst (v := 0) hx hb d_Md_variant_71 (by decide) ?_
      refine h_calli (va_runV (As := [.int (bI (isN n q)), .int 0, .int 0]) (rest := []) ⟨hx, hb, hml, hown, htg⟩ (c_Md_goes l D cs N0 H x g i f (isN n q) false false hsep hI) (cwV 3 htg (gw_V (gw_mem (i := 1092) (by decide +kernel) rfl) (gw_mem (i := 1094) (by decide +kernel) rfl) (gw_mem (i := 18) (by decide +kernel) rfl) (gw_mem (i := 38) (by decide +kernel) rfl) (gw_mem (i := 1095) (by decide +kernel) rfl)) rfl rfl rfl (by decide +kernel) ⟨Nat.le_of_ble_eq_true rfl, Nat.le_of_ble_eq_true rfl⟩) ⟨hPre.blind, hx_recv hK (ci := 0) rfl hI.1, hPre.at hB hS hsep.A⟩ rfl rfl hl.1 rfl (lv_room (Nat.le_of_ble_eq_true rfl)) d_Md_variant_72 ⟨Nat.zero_le _, Nat.zero_le _⟩) hS (fun _ h => h) (fun r72 H locs hp hz hk hS => ?_)
      obtain ⟨hI, er72⟩ := hp
      refine lv_eqi (y := 0) (er72.trans (by simp [goB, bI])) ?_
      refine lv_if_ne (x := 0) (tgt := 80) hx hb d_Md_variant_75 (by decide) (fun c75 => ?_) (fun c75 => ?_)
      · exact absurd c75 (by decide)
      · skip
        refine lv_iconst (v := 0) hx hb d_Md_variant_78 (by decide) ?_
        exact W.iret (v := 0) hx hb hr (fun t ht hW => ⟨⟨0, H, rfl, by dsimp only; have e1 : (isN n q && !decide (4 ≤ mn (tn q)) && !decide (pn ≤ 0)) = false := (by first | (simp [c12, c38]; done) | (simp [c12, c38]; omega) | omega | simp_all); have e2 : (!decide (lg < 0) && !decide (5 < lg) && isD fr && isD to && !decide (to < fr)) = false := (by first | (simp [c12, c38]; done) | (simp [c12, c38]; omega) | omega | simp_all); rw [e1, e2]; rw [if_neg (show ¬ goB (isN n q) false false = true by simp [goB])]; exact ⟨hI, rfl⟩, ht⟩, hS.F ht⟩) hS.2.2 d_Md_variant_79
    · skip
      refine lv_iload_n hx hb d_Md_variant_41 rfl (lv_at hl 3 rfl) ?_
      refine lv_iconst (v := 5) hx hb d_Md_variant_42 (by decide) ?_
      refine lv_icmp_gt (x := lg) (y := 5) (tgt := 71) hx hb d_Md_variant_43 (by decide) (fun c43 => ?_) (fun c43 => ?_)
      · skip
        refine lv_iconst (v := 0) hx hb d_Md_variant_71 (by decide) ?_
        refine h_calli (va_runV (As := [.int (bI (isN n q)), .int 0, .int 0]) (rest := []) ⟨hx, hb, hml, hown, htg⟩ (c_Md_goes l D cs N0 H x g i f (isN n q) false false hsep hI) (cwV 3 htg (gw_V (gw_mem (i := 1092) (by decide +kernel) rfl) (gw_mem (i := 1094) (by decide +kernel) rfl) (gw_mem (i := 18) (by decide +kernel) rfl) (gw_mem (i := 38) (by decide +kernel) rfl) (gw_mem (i := 1095) (by decide +kernel) rfl)) rfl rfl rfl (by decide +kernel) ⟨Nat.le_of_ble_eq_true rfl, Nat.le_of_ble_eq_true rfl⟩) ⟨hPre.blind, hx_recv hK (ci := 0) rfl hI.1, hPre.at hB hS hsep.A⟩ rfl rfl hl.1 rfl (lv_room (Nat.le_of_ble_eq_true rfl)) d_Md_variant_72 ⟨Nat.zero_le _, Nat.zero_le _⟩) hS (fun _ h => h) (fun r72 H locs hp hz hk hS => ?_)
        obtain ⟨hI, er72⟩ := hp
        refine lv_eqi (y := 0) (er72.trans (by simp [goB, bI])) ?_
        refine lv_if_ne (x := 0) (tgt := 80) hx hb d_Md_variant_75 (by decide) (fun c75 => ?_) (fun c75 => ?_)
        · exact absurd c75 (by decide)
        · skip
          refine lv_iconst (v := 0) hx hb d_Md_variant_78 (by decide) ?_
          exact W.iret (v := 0) hx hb hr (fun t ht hW => ⟨⟨0, H, rfl, by dsimp only; have e1 : (isN n q && !decide (4 ≤ mn (tn q)) && !decide (pn ≤ 0)) = false := (by first | (simp [c12, c38, c43]; done) | (simp [c12, c38, c43]; omega) | omega | simp_all); have e2 : (!decide (lg < 0) && !decide (5 < lg) && isD fr && isD to && !decide (to < fr)) = false := (by first | (simp [c12, c38, c43]; done) | (simp [c12, c38, c43]; omega) | omega | simp_all); rw [e1, e2]; rw [if_neg (show ¬ goB (isN n q) false false = true by simp [goB])]; exact ⟨hI, rfl⟩, ht⟩, hS.F ht⟩) hS.2.2 d_Md_variant_79
      · skip
        refine lv_iload_n hx hb d_Md_variant_46 rfl (lv_at hl 4 rfl) ?_
        refine h_calli (va_runS (As := [.int fr]) (rest := [.int 0, .int (bI (isN n q)), .ref x]) ⟨hx, hb, hml, hown, htg⟩ (c_Md_isDay l D cs N0 H x g i f fr hsep hI) (cwS 1 htg (gw_S (gw_mem (i := 1112) (by decide +kernel) rfl) (gw_mem (i := 1113) (by decide +kernel) rfl) (gw_mem (i := 38) (by decide +kernel) rfl) (gw_mem (i := 1114) (by decide +kernel) rfl)) rfl rfl rfl (by decide +kernel) ⟨Nat.le_of_ble_eq_true rfl, Nat.le_of_ble_eq_true rfl⟩) ⟨hPre.blind, hPre.at hB hS hsep.A⟩ rfl rfl hl.1 rfl (lv_room (Nat.le_of_ble_eq_true rfl)) d_Md_variant_47 ⟨Nat.zero_le _, Nat.zero_le _⟩) hS (fun _ h => h) (fun r47 H locs hp hz hk hS => ?_)
        obtain ⟨hI, er47⟩ := hp
        refine lv_eqi (y := (bI (isD fr))) er47 ?_
        refine lv_if_eq (x := (bI (isD fr))) (tgt := 71) hx hb d_Md_variant_50 (by decide) (fun c50 => ?_) (fun c50 => ?_)
        · skip
          replace c50 : (isD fr) = false := bI_0 c50
          refine lv_iconst (v := 0) hx hb d_Md_variant_71 (by decide) ?_
          refine h_calli (va_runV (As := [.int (bI (isN n q)), .int 0, .int 0]) (rest := []) ⟨hx, hb, hml, hown, htg⟩ (c_Md_goes l D cs N0 H x g i f (isN n q) false false hsep hI) (cwV 3 htg (gw_V (gw_mem (i := 1092) (by decide +kernel) rfl) (gw_mem (i := 1094) (by decide +kernel) rfl) (gw_mem (i := 18) (by decide +kernel) rfl) (gw_mem (i := 38) (by decide +kernel) rfl) (gw_mem (i := 1095) (by decide +kernel) rfl)) rfl rfl rfl (by decide +kernel) ⟨Nat.le_of_ble_eq_true rfl, Nat.le_of_ble_eq_true rfl⟩) ⟨hPre.blind, hx_recv hK (ci := 0) rfl hI.1, hPre.at hB hS hsep.A⟩ rfl rfl hl.1 rfl (lv_room (Nat.le_of_ble_eq_true rfl)) d_Md_variant_72 ⟨Nat.zero_le _, Nat.zero_le _⟩) hS (fun _ h => h) (fun r72 H locs hp hz hk hS => ?_)
          obtain ⟨hI, er72⟩ := hp
          refine lv_eqi (y := 0) (er72.trans (by simp [goB, bI])) ?_
          refine lv_if_ne (x := 0) (tgt := 80) hx hb d_Md_variant_75 (by decide) (fun c75 => ?_) (fun c75 => ?_)
          · exact absurd c75 (by decide)
          · skip
            refine lv_iconst (v := 0) hx hb d_Md_variant_78 (by decide) ?_
            exact W.iret (v := 0) hx hb hr (fun t ht hW => ⟨⟨0, H, rfl, by dsimp only; have e1 : (isN n q && !decide (4 ≤ mn (tn q)) && !decide (pn ≤ 0)) = false := (by first | (simp [c12, c38, c43, c50]; done) | (simp [c12, c38, c43, c50]; omega) | omega | simp_all); have e2 : (!decide (lg < 0) && !decide (5 < lg) && isD fr && isD to && !decide (to < fr)) = false := (by first | (simp [c12, c38, c43, c50]; done) | (simp [c12, c38, c43, c50]; omega) | omega | simp_all); rw [e1, e2]; rw [if_neg (show ¬ goB (isN n q) false false = true by simp [goB])]; exact ⟨hI, rfl⟩, ht⟩, hS.F ht⟩) hS.2.2 d_Md_variant_79
        · skip
          replace c50 : (isD fr) = true := bI_1 c50
          refine lv_iload hx hb d_Md_variant_53 (lv_at hl 5 rfl) ?_
          refine h_calli (va_runS (As := [.int to]) (rest := [.int 0, .int (bI (isN n q)), .ref x]) ⟨hx, hb, hml, hown, htg⟩ (c_Md_isDay l D cs N0 H x g i f to hsep hI) (cwS 1 htg (gw_S (gw_mem (i := 1112) (by decide +kernel) rfl) (gw_mem (i := 1113) (by decide +kernel) rfl) (gw_mem (i := 38) (by decide +kernel) rfl) (gw_mem (i := 1114) (by decide +kernel) rfl)) rfl rfl rfl (by decide +kernel) ⟨Nat.le_of_ble_eq_true rfl, Nat.le_of_ble_eq_true rfl⟩) ⟨hPre.blind, hPre.at hB hS hsep.A⟩ rfl rfl hl.1 rfl (lv_room (Nat.le_of_ble_eq_true rfl)) d_Md_variant_55 ⟨Nat.zero_le _, Nat.zero_le _⟩) hS (fun _ h => h) (fun r55 H locs hp hz hk hS => ?_)
          obtain ⟨hI, er55⟩ := hp
          refine lv_eqi (y := (bI (isD to))) er55 ?_
          refine lv_if_eq (x := (bI (isD to))) (tgt := 71) hx hb d_Md_variant_58 (by decide) (fun c58 => ?_) (fun c58 => ?_)
          · skip
            replace c58 : (isD to) = false := bI_0 c58
            refine lv_iconst (v := 0) hx hb d_Md_variant_71 (by decide) ?_
            refine h_calli (va_runV (As := [.int (bI (isN n q)), .int 0, .int 0]) (rest := []) ⟨hx, hb, hml, hown, htg⟩ (c_Md_goes l D cs N0 H x g i f (isN n q) false false hsep hI) (cwV 3 htg (gw_V (gw_mem (i := 1092) (by decide +kernel) rfl) (gw_mem (i := 1094) (by decide +kernel) rfl) (gw_mem (i := 18) (by decide +kernel) rfl) (gw_mem (i := 38) (by decide +kernel) rfl) (gw_mem (i := 1095) (by decide +kernel) rfl)) rfl rfl rfl (by decide +kernel) ⟨Nat.le_of_ble_eq_true rfl, Nat.le_of_ble_eq_true rfl⟩) ⟨hPre.blind, hx_recv hK (ci := 0) rfl hI.1, hPre.at hB hS hsep.A⟩ rfl rfl hl.1 rfl (lv_room (Nat.le_of_ble_eq_true rfl)) d_Md_variant_72 ⟨Nat.zero_le _, Nat.zero_le _⟩) hS (fun _ h => h) (fun r72 H locs hp hz hk hS => ?_)
            obtain ⟨hI, er72⟩ := hp
            refine lv_eqi (y := 0) (er72.trans (by simp [goB, bI])) ?_
            refine lv_if_ne (x := 0) (tgt := 80) hx hb d_Md_variant_75 (by decide) (fun c75 => ?_) (fun c75 => ?_)
            · exact absurd c75 (by decide)
            · skip
              refine lv_iconst (v := 0) hx hb d_Md_variant_78 (by decide) ?_
              exact W.iret (v := 0) hx hb hr (fun t ht hW => ⟨⟨0, H, rfl, by dsimp only; have e1 : (isN n q && !decide (4 ≤ mn (tn q)) && !decide (pn ≤ 0)) = false := (by first | (simp [c12, c38, c43, c50, c58]; done) | (simp [c12, c38, c43, c50, c58]; omega) | omega | simp_all); have e2 : (!decide (lg < 0) && !decide (5 < lg) && isD fr && isD to && !decide (to < fr)) = false := (by first | (simp [c12, c38, c43, c50, c58]; done) | (simp [c12, c38, c43, c50, c58]; omega) | omega | simp_all); rw [e1, e2]; rw [if_neg (show ¬ goB (isN n q) false false = true by simp [goB])]; exact ⟨hI, rfl⟩, ht⟩, hS.F ht⟩) hS.2.2 d_Md_variant_79
          · skip
            replace c58 : (isD to) = true := bI_1 c58
            refine lv_iload_n hx hb d_Md_variant_61 rfl (lv_at hl 4 rfl) ?_
            refine lv_iload hx hb d_Md_variant_62 (lv_at hl 5 rfl) ?_
            refine lv_icmp_gt (x := fr) (y := to) (tgt := 71) hx hb d_Md_variant_64 (by decide) (fun c64 => ?_) (fun c64 => ?_)
            · skip
              refine lv_iconst (v := 0) hx hb d_Md_variant_71 (by decide) ?_
              refine h_calli (va_runV (As := [.int (bI (isN n q)), .int 0, .int 0]) (rest := []) ⟨hx, hb, hml, hown, htg⟩ (c_Md_goes l D cs N0 H x g i f (isN n q) false false hsep hI) (cwV 3 htg (gw_V (gw_mem (i := 1092) (by decide +kernel) rfl) (gw_mem (i := 1094) (by decide +kernel) rfl) (gw_mem (i := 18) (by decide +kernel) rfl) (gw_mem (i := 38) (by decide +kernel) rfl) (gw_mem (i := 1095) (by decide +kernel) rfl)) rfl rfl rfl (by decide +kernel) ⟨Nat.le_of_ble_eq_true rfl, Nat.le_of_ble_eq_true rfl⟩) ⟨hPre.blind, hx_recv hK (ci := 0) rfl hI.1, hPre.at hB hS hsep.A⟩ rfl rfl hl.1 rfl (lv_room (Nat.le_of_ble_eq_true rfl)) d_Md_variant_72 ⟨Nat.zero_le _, Nat.zero_le _⟩) hS (fun _ h => h) (fun r72 H locs hp hz hk hS => ?_)
              obtain ⟨hI, er72⟩ := hp
              refine lv_eqi (y := 0) (er72.trans (by simp [goB, bI])) ?_
              refine lv_if_ne (x := 0) (tgt := 80) hx hb d_Md_variant_75 (by decide) (fun c75 => ?_) (fun c75 => ?_)
              · exact absurd c75 (by decide)
              · skip
                refine lv_iconst (v := 0) hx hb d_Md_variant_78 (by decide) ?_
                exact W.iret (v := 0) hx hb hr (fun t ht hW => ⟨⟨0, H, rfl, by dsimp only; have e1 : (isN n q && !decide (4 ≤ mn (tn q)) && !decide (pn ≤ 0)) = false := (by first | (simp [c12, c38, c43, c50, c58, c64]; done) | (simp [c12, c38, c43, c50, c58, c64]; omega) | omega | simp_all); have e2 : (!decide (lg < 0) && !decide (5 < lg) && isD fr && isD to && !decide (to < fr)) = false := (by first | (simp [c12, c38, c43, c50, c58, c64]; done) | (simp [c12, c38, c43, c50, c58, c64]; omega) | omega | simp_all); rw [e1, e2]; rw [if_neg (show ¬ goB (isN n q) false false = true by simp [goB])]; exact ⟨hI, rfl⟩, ht⟩, hS.F ht⟩) hS.2.2 d_Md_variant_79
            · skip
              refine lv_iconst (v := 1) hx hb d_Md_variant_67 (by decide) ?_
              refine lv_goto (tgt := 72) hx hb d_Md_variant_68 (by decide) ?_
              refine h_calli (va_runV (As := [.int (bI (isN n q)), .int 0, .int 1]) (rest := []) ⟨hx, hb, hml, hown, htg⟩ (c_Md_goes l D cs N0 H x g i f (isN n q) false true hsep hI) (cwV 3 htg (gw_V (gw_mem (i := 1092) (by decide +kernel) rfl) (gw_mem (i := 1094) (by decide +kernel) rfl) (gw_mem (i := 18) (by decide +kernel) rfl) (gw_mem (i := 38) (by decide +kernel) rfl) (gw_mem (i := 1095) (by decide +kernel) rfl)) rfl rfl rfl (by decide +kernel) ⟨Nat.le_of_ble_eq_true rfl, Nat.le_of_ble_eq_true rfl⟩) ⟨hPre.blind, hx_recv hK (ci := 0) rfl hI.1, hPre.at hB hS hsep.A⟩ rfl rfl hl.1 rfl (lv_room (Nat.le_of_ble_eq_true rfl)) d_Md_variant_72 ⟨Nat.zero_le _, Nat.zero_le _⟩) hS (fun _ h => h) (fun r72 H locs hp hz hk hS => ?_)
              obtain ⟨hI, er72⟩ := hp
              refine lv_eqi (y := 0) (er72.trans (by simp [goB, bI])) ?_
              refine lv_if_ne (x := 0) (tgt := 80) hx hb d_Md_variant_75 (by decide) (fun c75 => ?_) (fun c75 => ?_)
              · exact absurd c75 (by decide)
              · skip
                refine lv_iconst (v := 0) hx hb d_Md_variant_78 (by decide) ?_
                exact W.iret (v := 0) hx hb hr (fun t ht hW => ⟨⟨0, H, rfl, by dsimp only; have e1 : (isN n q && !decide (4 ≤ mn (tn q)) && !decide (pn ≤ 0)) = false := (by first | (simp [c12, c38, c43, c50, c58, c64]; done) | (simp [c12, c38, c43, c50, c58, c64]; omega) | omega | simp_all); have e2 : (!decide (lg < 0) && !decide (5 < lg) && isD fr && isD to && !decide (to < fr)) = true := (by first | (simp [c12, c38, c43, c50, c58, c64]; done) | (simp [c12, c38, c43, c50, c58, c64]; omega) | omega | simp_all); rw [e1, e2]; rw [if_neg (show ¬ goB (isN n q) false true = true by simp [goB])]; exact ⟨hI, rfl⟩, ht⟩, hS.F ht⟩) hS.2.2 d_Md_variant_79
  · skip
    replace c12 : (isN n q) = true := bI_1 c12
    obtain ⟨ha, ea⟩ := isN_n c12 (by omega)
    have hmq := hm (tn q) (by omega)
    refine lv_aload_n hx hb d_Md_variant_15 rfl (lv_at hl 1 rfl) ?_
    refine hx_get (v := .ref (g 1)) hx hb htg iMd hown hK hI.1 rfl 4 (by decide) (htg _ (gw_mem (i := 1002) (by decide +kernel) rfl)) (fun _ h9 => h9) rfl d_Md_variant_16 ?_
    refine lv_iload_n hx hb d_Md_variant_19 rfl (lv_at hl 2 rfl) ?_
    refine lv_eqi (y := (nI (tn q))) ea ?_
    refine hx_iald hx hb hK 0 (hI.2 1 (by decide)) rfl (show vp_in (nI (tn q)) 24 from vp_in_nI (n := tn q) (by omega) (by decide)) d_Md_variant_20 ?_
    refine lv_eqi (y := (f 1 (tn q))) (show f 1 (nI (tn q)).toNatClampNeg = _ by rw [nI_clamp (by omega)]) ?_
    refine lv_eqi (y := (nI (mn (tn q)))) hmq.1 ?_
    refine lv_iconst (v := 4) hx hb d_Md_variant_21 (by decide) ?_
    refine lv_icmp_ge (x := (nI (mn (tn q)))) (y := 4) (tgt := 36) hx hb d_Md_variant_22 (by decide) (fun c22 => ?_) (fun c22 => ?_)
    · skip
      replace c22 : 4 ≤ (mn (tn q)) := (nI_leI (a := 4) (b := (mn (tn q))) (by omega) (by omega)).mp c22
      refine lv_iconst (v := 0) hx hb d_Md_variant_36 (by decide) ?_
      refine lv_iload_n hx hb d_Md_variant_37 rfl (lv_at hl 3 rfl) ?_
      refine lv_if_lt (x := lg) (tgt := 71) hx hb d_Md_variant_38 (by decide) (fun c38 => ?_) (fun c38 => ?_)
      · skip
        refine lv_iconst (v := 0) hx hb d_Md_variant_71 (by decide) ?_
        refine h_calli (va_runV (As := [.int (bI (isN n q)), .int 0, .int 0]) (rest := []) ⟨hx, hb, hml, hown, htg⟩ (c_Md_goes l D cs N0 H x g i f (isN n q) false false hsep hI) (cwV 3 htg (gw_V (gw_mem (i := 1092) (by decide +kernel) rfl) (gw_mem (i := 1094) (by decide +kernel) rfl) (gw_mem (i := 18) (by decide +kernel) rfl) (gw_mem (i := 38) (by decide +kernel) rfl) (gw_mem (i := 1095) (by decide +kernel) rfl)) rfl rfl rfl (by decide +kernel) ⟨Nat.le_of_ble_eq_true rfl, Nat.le_of_ble_eq_true rfl⟩) ⟨hPre.blind, hx_recv hK (ci := 0) rfl hI.1, hPre.at hB hS hsep.A⟩ rfl rfl hl.1 rfl (lv_room (Nat.le_of_ble_eq_true rfl)) d_Md_variant_72 ⟨Nat.zero_le _, Nat.zero_le _⟩) hS (fun _ h => h) (fun r72 H locs hp hz hk hS => ?_)
        obtain ⟨hI, er72⟩ := hp
        refine lv_eqi (y := 0) (er72.trans (by simp [goB, bI])) ?_
        refine lv_if_ne (x := 0) (tgt := 80) hx hb d_Md_variant_75 (by decide) (fun c75 => ?_) (fun c75 => ?_)
        · exact absurd c75 (by decide)
        · skip
          refine lv_iconst (v := 0) hx hb d_Md_variant_78 (by decide) ?_
          exact W.iret (v := 0) hx hb hr (fun t ht hW => ⟨⟨0, H, rfl, by dsimp only; have e1 : (isN n q && !decide (4 ≤ mn (tn q)) && !decide (pn ≤ 0)) = false := (by first | (simp [c12, c22, c38]; done) | (simp [c12, c22, c38]; omega) | omega | simp_all); have e2 : (!decide (lg < 0) && !decide (5 < lg) && isD fr && isD to && !decide (to < fr)) = false := (by first | (simp [c12, c22, c38]; done) | (simp [c12, c22, c38]; omega) | omega | simp_all); rw [e1, e2]; rw [if_neg (show ¬ goB (isN n q) false false = true by simp [goB])]; exact ⟨hI, rfl⟩, ht⟩, hS.F ht⟩) hS.2.2 d_Md_variant_79
      · skip
        refine lv_iload_n hx hb d_Md_variant_41 rfl (lv_at hl 3 rfl) ?_
        refine lv_iconst (v := 5) hx hb d_Md_variant_42 (by decide) ?_
        refine lv_icmp_gt (x := lg) (y := 5) (tgt := 71) hx hb d_Md_variant_43 (by decide) (fun c43 => ?_) (fun c43 => ?_)
        · skip
          refine lv_iconst (v := 0) hx hb d_Md_variant_71 (by decide) ?_
          refine h_calli (va_runV (As := [.int (bI (isN n q)), .int 0, .int 0]) (rest := []) ⟨hx, hb, hml, hown, htg⟩ (c_Md_goes l D cs N0 H x g i f (isN n q) false false hsep hI) (cwV 3 htg (gw_V (gw_mem (i := 1092) (by decide +kernel) rfl) (gw_mem (i := 1094) (by decide +kernel) rfl) (gw_mem (i := 18) (by decide +kernel) rfl) (gw_mem (i := 38) (by decide +kernel) rfl) (gw_mem (i := 1095) (by decide +kernel) rfl)) rfl rfl rfl (by decide +kernel) ⟨Nat.le_of_ble_eq_true rfl, Nat.le_of_ble_eq_true rfl⟩) ⟨hPre.blind, hx_recv hK (ci := 0) rfl hI.1, hPre.at hB hS hsep.A⟩ rfl rfl hl.1 rfl (lv_room (Nat.le_of_ble_eq_true rfl)) d_Md_variant_72 ⟨Nat.zero_le _, Nat.zero_le _⟩) hS (fun _ h => h) (fun r72 H locs hp hz hk hS => ?_)
          obtain ⟨hI, er72⟩ := hp
          refine lv_eqi (y := 0) (er72.trans (by simp [goB, bI])) ?_
          refine lv_if_ne (x := 0) (tgt := 80) hx hb d_Md_variant_75 (by decide) (fun c75 => ?_) (fun c75 => ?_)
          · exact absurd c75 (by decide)
          · skip
            refine lv_iconst (v := 0) hx hb d_Md_variant_78 (by decide) ?_
            exact W.iret (v := 0) hx hb hr (fun t ht hW => ⟨⟨0, H, rfl, by dsimp only; have e1 : (isN n q && !decide (4 ≤ mn (tn q)) && !decide (pn ≤ 0)) = false := (by first | (simp [c12, c22, c38, c43]; done) | (simp [c12, c22, c38, c43]; omega) | omega | simp_all); have e2 : (!decide (lg < 0) && !decide (5 < lg) && isD fr && isD to && !decide (to < fr)) = false := (by first | (simp [c12, c22, c38, c43]; done) | (simp [c12, c22, c38, c43]; omega) | omega | simp_all); rw [e1, e2]; rw [if_neg (show ¬ goB (isN n q) false false = true by simp [goB])]; exact ⟨hI, rfl⟩, ht⟩, hS.F ht⟩) hS.2.2 d_Md_variant_79
        · skip
          refine lv_iload_n hx hb d_Md_variant_46 rfl (lv_at hl 4 rfl) ?_
          refine h_calli (va_runS (As := [.int fr]) (rest := [.int 0, .int (bI (isN n q)), .ref x]) ⟨hx, hb, hml, hown, htg⟩ (c_Md_isDay l D cs N0 H x g i f fr hsep hI) (cwS 1 htg (gw_S (gw_mem (i := 1112) (by decide +kernel) rfl) (gw_mem (i := 1113) (by decide +kernel) rfl) (gw_mem (i := 38) (by decide +kernel) rfl) (gw_mem (i := 1114) (by decide +kernel) rfl)) rfl rfl rfl (by decide +kernel) ⟨Nat.le_of_ble_eq_true rfl, Nat.le_of_ble_eq_true rfl⟩) ⟨hPre.blind, hPre.at hB hS hsep.A⟩ rfl rfl hl.1 rfl (lv_room (Nat.le_of_ble_eq_true rfl)) d_Md_variant_47 ⟨Nat.zero_le _, Nat.zero_le _⟩) hS (fun _ h => h) (fun r47 H locs hp hz hk hS => ?_)
          obtain ⟨hI, er47⟩ := hp
          refine lv_eqi (y := (bI (isD fr))) er47 ?_
          refine lv_if_eq (x := (bI (isD fr))) (tgt := 71) hx hb d_Md_variant_50 (by decide) (fun c50 => ?_) (fun c50 => ?_)
          · skip
            replace c50 : (isD fr) = false := bI_0 c50
            refine lv_iconst (v := 0) hx hb d_Md_variant_71 (by decide) ?_
            refine h_calli (va_runV (As := [.int (bI (isN n q)), .int 0, .int 0]) (rest := []) ⟨hx, hb, hml, hown, htg⟩ (c_Md_goes l D cs N0 H x g i f (isN n q) false false hsep hI) (cwV 3 htg (gw_V (gw_mem (i := 1092) (by decide +kernel) rfl) (gw_mem (i := 1094) (by decide +kernel) rfl) (gw_mem (i := 18) (by decide +kernel) rfl) (gw_mem (i := 38) (by decide +kernel) rfl) (gw_mem (i := 1095) (by decide +kernel) rfl)) rfl rfl rfl (by decide +kernel) ⟨Nat.le_of_ble_eq_true rfl, Nat.le_of_ble_eq_true rfl⟩) ⟨hPre.blind, hx_recv hK (ci := 0) rfl hI.1, hPre.at hB hS hsep.A⟩ rfl rfl hl.1 rfl (lv_room (Nat.le_of_ble_eq_true rfl)) d_Md_variant_72 ⟨Nat.zero_le _, Nat.zero_le _⟩) hS (fun _ h => h) (fun r72 H locs hp hz hk hS => ?_)
            obtain ⟨hI, er72⟩ := hp
            refine lv_eqi (y := 0) (er72.trans (by simp [goB, bI])) ?_
            refine lv_if_ne (x := 0) (tgt := 80) hx hb d_Md_variant_75 (by decide) (fun c75 => ?_) (fun c75 => ?_)
            · exact absurd c75 (by decide)
            · skip
              refine lv_iconst (v := 0) hx hb d_Md_variant_78 (by decide) ?_
              exact W.iret (v := 0) hx hb hr (fun t ht hW => ⟨⟨0, H, rfl, by dsimp only; have e1 : (isN n q && !decide (4 ≤ mn (tn q)) && !decide (pn ≤ 0)) = false := (by first | (simp [c12, c22, c38, c43, c50]; done) | (simp [c12, c22, c38, c43, c50]; omega) | omega | simp_all); have e2 : (!decide (lg < 0) && !decide (5 < lg) && isD fr && isD to && !decide (to < fr)) = false := (by first | (simp [c12, c22, c38, c43, c50]; done) | (simp [c12, c22, c38, c43, c50]; omega) | omega | simp_all); rw [e1, e2]; rw [if_neg (show ¬ goB (isN n q) false false = true by simp [goB])]; exact ⟨hI, rfl⟩, ht⟩, hS.F ht⟩) hS.2.2 d_Md_variant_79
          · skip
            replace c50 : (isD fr) = true := bI_1 c50
            refine lv_iload hx hb d_Md_variant_53 (lv_at hl 5 rfl) ?_
            refine h_calli (va_runS (As := [.int to]) (rest := [.int 0, .int (bI (isN n q)), .ref x]) ⟨hx, hb, hml, hown, htg⟩ (c_Md_isDay l D cs N0 H x g i f to hsep hI) (cwS 1 htg (gw_S (gw_mem (i := 1112) (by decide +kernel) rfl) (gw_mem (i := 1113) (by decide +kernel) rfl) (gw_mem (i := 38) (by decide +kernel) rfl) (gw_mem (i := 1114) (by decide +kernel) rfl)) rfl rfl rfl (by decide +kernel) ⟨Nat.le_of_ble_eq_true rfl, Nat.le_of_ble_eq_true rfl⟩) ⟨hPre.blind, hPre.at hB hS hsep.A⟩ rfl rfl hl.1 rfl (lv_room (Nat.le_of_ble_eq_true rfl)) d_Md_variant_55 ⟨Nat.zero_le _, Nat.zero_le _⟩) hS (fun _ h => h) (fun r55 H locs hp hz hk hS => ?_)
            obtain ⟨hI, er55⟩ := hp
            refine lv_eqi (y := (bI (isD to))) er55 ?_
            refine lv_if_eq (x := (bI (isD to))) (tgt := 71) hx hb d_Md_variant_58 (by decide) (fun c58 => ?_) (fun c58 => ?_)
            · skip
              replace c58 : (isD to) = false := bI_0 c58
              refine lv_iconst (v := 0) hx hb d_Md_variant_71 (by decide) ?_
              refine h_calli (va_runV (As := [.int (bI (isN n q)), .int 0, .int 0]) (rest := []) ⟨hx, hb, hml, hown, htg⟩ (c_Md_goes l D cs N0 H x g i f (isN n q) false false hsep hI) (cwV 3 htg (gw_V (gw_mem (i := 1092) (by decide +kernel) rfl) (gw_mem (i := 1094) (by decide +kernel) rfl) (gw_mem (i := 18) (by decide +kernel) rfl) (gw_mem (i := 38) (by decide +kernel) rfl) (gw_mem (i := 1095) (by decide +kernel) rfl)) rfl rfl rfl (by decide +kernel) ⟨Nat.le_of_ble_eq_true rfl, Nat.le_of_ble_eq_true rfl⟩) ⟨hPre.blind, hx_recv hK (ci := 0) rfl hI.1, hPre.at hB hS hsep.A⟩ rfl rfl hl.1 rfl (lv_room (Nat.le_of_ble_eq_true rfl)) d_Md_variant_72 ⟨Nat.zero_le _, Nat.zero_le _⟩) hS (fun _ h => h) (fun r72 H locs hp hz hk hS => ?_)
              obtain ⟨hI, er72⟩ := hp
              refine lv_eqi (y := 0) (er72.trans (by simp [goB, bI])) ?_
              refine lv_if_ne (x := 0) (tgt := 80) hx hb d_Md_variant_75 (by decide) (fun c75 => ?_) (fun c75 => ?_)
              · exact absurd c75 (by decide)
              · skip
                refine lv_iconst (v := 0) hx hb d_Md_variant_78 (by decide) ?_
                exact W.iret (v := 0) hx hb hr (fun t ht hW => ⟨⟨0, H, rfl, by dsimp only; have e1 : (isN n q && !decide (4 ≤ mn (tn q)) && !decide (pn ≤ 0)) = false := (by first | (simp [c12, c22, c38, c43, c50, c58]; done) | (simp [c12, c22, c38, c43, c50, c58]; omega) | omega | simp_all); have e2 : (!decide (lg < 0) && !decide (5 < lg) && isD fr && isD to && !decide (to < fr)) = false := (by first | (simp [c12, c22, c38, c43, c50, c58]; done) | (simp [c12, c22, c38, c43, c50, c58]; omega) | omega | simp_all); rw [e1, e2]; rw [if_neg (show ¬ goB (isN n q) false false = true by simp [goB])]; exact ⟨hI, rfl⟩, ht⟩, hS.F ht⟩) hS.2.2 d_Md_variant_79
            · skip
              replace c58 : (isD to) = true := bI_1 c58
              refine lv_iload_n hx hb d_Md_variant_61 rfl (lv_at hl 4 rfl) ?_
              refine lv_iload hx hb d_Md_variant_62 (lv_at hl 5 rfl) ?_
              refine lv_icmp_gt (x := fr) (y := to) (tgt := 71) hx hb d_Md_variant_64 (by decide) (fun c64 => ?_) (fun c64 => ?_)
              · skip
                refine lv_iconst (v := 0) hx hb d_Md_variant_71 (by decide) ?_
                refine h_calli (va_runV (As := [.int (bI (isN n q)), .int 0, .int 0]) (rest := []) ⟨hx, hb, hml, hown, htg⟩ (c_Md_goes l D cs N0 H x g i f (isN n q) false false hsep hI) (cwV 3 htg (gw_V (gw_mem (i := 1092) (by decide +kernel) rfl) (gw_mem (i := 1094) (by decide +kernel) rfl) (gw_mem (i := 18) (by decide +kernel) rfl) (gw_mem (i := 38) (by decide +kernel) rfl) (gw_mem (i := 1095) (by decide +kernel) rfl)) rfl rfl rfl (by decide +kernel) ⟨Nat.le_of_ble_eq_true rfl, Nat.le_of_ble_eq_true rfl⟩) ⟨hPre.blind, hx_recv hK (ci := 0) rfl hI.1, hPre.at hB hS hsep.A⟩ rfl rfl hl.1 rfl (lv_room (Nat.le_of_ble_eq_true rfl)) d_Md_variant_72 ⟨Nat.zero_le _, Nat.zero_le _⟩) hS (fun _ h => h) (fun r72 H locs hp hz hk hS => ?_)
                obtain ⟨hI, er72⟩ := hp
                refine lv_eqi (y := 0) (er72.trans (by simp [goB, bI])) ?_
                refine lv_if_ne (x := 0) (tgt := 80) hx hb d_Md_variant_75 (by decide) (fun c75 => ?_) (fun c75 => ?_)
                · exact absurd c75 (by decide)
                · skip
                  refine lv_iconst (v := 0) hx hb d_Md_variant_78 (by decide) ?_
                  exact W.iret (v := 0) hx hb hr (fun t ht hW => ⟨⟨0, H, rfl, by dsimp only; have e1 : (isN n q && !decide (4 ≤ mn (tn q)) && !decide (pn ≤ 0)) = false := (by first | (simp [c12, c22, c38, c43, c50, c58, c64]; done) | (simp [c12, c22, c38, c43, c50, c58, c64]; omega) | omega | simp_all); have e2 : (!decide (lg < 0) && !decide (5 < lg) && isD fr && isD to && !decide (to < fr)) = false := (by first | (simp [c12, c22, c38, c43, c50, c58, c64]; done) | (simp [c12, c22, c38, c43, c50, c58, c64]; omega) | omega | simp_all); rw [e1, e2]; rw [if_neg (show ¬ goB (isN n q) false false = true by simp [goB])]; exact ⟨hI, rfl⟩, ht⟩, hS.F ht⟩) hS.2.2 d_Md_variant_79
              · skip
                refine lv_iconst (v := 1) hx hb d_Md_variant_67 (by decide) ?_
                refine lv_goto (tgt := 72) hx hb d_Md_variant_68 (by decide) ?_
                refine h_calli (va_runV (As := [.int (bI (isN n q)), .int 0, .int 1]) (rest := []) ⟨hx, hb, hml, hown, htg⟩ (c_Md_goes l D cs N0 H x g i f (isN n q) false true hsep hI) (cwV 3 htg (gw_V (gw_mem (i := 1092) (by decide +kernel) rfl) (gw_mem (i := 1094) (by decide +kernel) rfl) (gw_mem (i := 18) (by decide +kernel) rfl) (gw_mem (i := 38) (by decide +kernel) rfl) (gw_mem (i := 1095) (by decide +kernel) rfl)) rfl rfl rfl (by decide +kernel) ⟨Nat.le_of_ble_eq_true rfl, Nat.le_of_ble_eq_true rfl⟩) ⟨hPre.blind, hx_recv hK (ci := 0) rfl hI.1, hPre.at hB hS hsep.A⟩ rfl rfl hl.1 rfl (lv_room (Nat.le_of_ble_eq_true rfl)) d_Md_variant_72 ⟨Nat.zero_le _, Nat.zero_le _⟩) hS (fun _ h => h) (fun r72 H locs hp hz hk hS => ?_)
                obtain ⟨hI, er72⟩ := hp
                refine lv_eqi (y := 0) (er72.trans (by simp [goB, bI])) ?_
                refine lv_if_ne (x := 0) (tgt := 80) hx hb d_Md_variant_75 (by decide) (fun c75 => ?_) (fun c75 => ?_)
                · exact absurd c75 (by decide)
                · skip
                  refine lv_iconst (v := 0) hx hb d_Md_variant_78 (by decide) ?_
                  exact W.iret (v := 0) hx hb hr (fun t ht hW => ⟨⟨0, H, rfl, by dsimp only; have e1 : (isN n q && !decide (4 ≤ mn (tn q)) && !decide (pn ≤ 0)) = false := (by first | (simp [c12, c22, c38, c43, c50, c58, c64]; done) | (simp [c12, c22, c38, c43, c50, c58, c64]; omega) | omega | simp_all); have e2 : (!decide (lg < 0) && !decide (5 < lg) && isD fr && isD to && !decide (to < fr)) = true := (by first | (simp [c12, c22, c38, c43, c50, c58, c64]; done) | (simp [c12, c22, c38, c43, c50, c58, c64]; omega) | omega | simp_all); rw [e1, e2]; rw [if_neg (show ¬ goB (isN n q) false true = true by simp [goB])]; exact ⟨hI, rfl⟩, ht⟩, hS.F ht⟩) hS.2.2 d_Md_variant_79
    · skip
      replace c22 : ¬ (4 ≤ (mn (tn q))) := fun z9 => c22 ((nI_leI (a := 4) (b := (mn (tn q))) (by omega) (by omega)).mpr z9)
      refine lv_aload_n hx hb d_Md_variant_25 rfl (lv_at hl 1 rfl) ?_
      refine hx_get (v := .int (i 1)) hx hb htg iMd hown hK hI.1 rfl 1 (by decide) (htg _ (gw_mem (i := 999) (by decide +kernel) rfl)) (fun _ h9 => h9) rfl d_Md_variant_26 ?_
      refine lv_eqi (y := (nI pn)) hpn ?_
      refine lv_if_le (x := (nI pn)) (tgt := 36) hx hb d_Md_variant_29 (by decide) (fun c29 => ?_) (fun c29 => ?_)
      · skip
        replace c29 : pn ≤ 0 := (nI_leI (a := pn) (b := 0) (by omega) (by omega)).mp c29
        refine lv_iconst (v := 0) hx hb d_Md_variant_36 (by decide) ?_
        refine lv_iload_n hx hb d_Md_variant_37 rfl (lv_at hl 3 rfl) ?_
        refine lv_if_lt (x := lg) (tgt := 71) hx hb d_Md_variant_38 (by decide) (fun c38 => ?_) (fun c38 => ?_)
        · skip
          refine lv_iconst (v := 0) hx hb d_Md_variant_71 (by decide) ?_
          refine h_calli (va_runV (As := [.int (bI (isN n q)), .int 0, .int 0]) (rest := []) ⟨hx, hb, hml, hown, htg⟩ (c_Md_goes l D cs N0 H x g i f (isN n q) false false hsep hI) (cwV 3 htg (gw_V (gw_mem (i := 1092) (by decide +kernel) rfl) (gw_mem (i := 1094) (by decide +kernel) rfl) (gw_mem (i := 18) (by decide +kernel) rfl) (gw_mem (i := 38) (by decide +kernel) rfl) (gw_mem (i := 1095) (by decide +kernel) rfl)) rfl rfl rfl (by decide +kernel) ⟨Nat.le_of_ble_eq_true rfl, Nat.le_of_ble_eq_true rfl⟩) ⟨hPre.blind, hx_recv hK (ci := 0) rfl hI.1, hPre.at hB hS hsep.A⟩ rfl rfl hl.1 rfl (lv_room (Nat.le_of_ble_eq_true rfl)) d_Md_variant_72 ⟨Nat.zero_le _, Nat.zero_le _⟩) hS (fun _ h => h) (fun r72 H locs hp hz hk hS => ?_)
          obtain ⟨hI, er72⟩ := hp
          refine lv_eqi (y := 0) (er72.trans (by simp [goB, bI])) ?_
          refine lv_if_ne (x := 0) (tgt := 80) hx hb d_Md_variant_75 (by decide) (fun c75 => ?_) (fun c75 => ?_)
          · exact absurd c75 (by decide)
          · skip
            refine lv_iconst (v := 0) hx hb d_Md_variant_78 (by decide) ?_
            exact W.iret (v := 0) hx hb hr (fun t ht hW => ⟨⟨0, H, rfl, by dsimp only; have e1 : (isN n q && !decide (4 ≤ mn (tn q)) && !decide (pn ≤ 0)) = false := (by first | (simp [c12, c22, c29, c38]; done) | (simp [c12, c22, c29, c38]; omega) | omega | simp_all); have e2 : (!decide (lg < 0) && !decide (5 < lg) && isD fr && isD to && !decide (to < fr)) = false := (by first | (simp [c12, c22, c29, c38]; done) | (simp [c12, c22, c29, c38]; omega) | omega | simp_all); rw [e1, e2]; rw [if_neg (show ¬ goB (isN n q) false false = true by simp [goB])]; exact ⟨hI, rfl⟩, ht⟩, hS.F ht⟩) hS.2.2 d_Md_variant_79
        · skip
          refine lv_iload_n hx hb d_Md_variant_41 rfl (lv_at hl 3 rfl) ?_
          refine lv_iconst (v := 5) hx hb d_Md_variant_42 (by decide) ?_
          refine lv_icmp_gt (x := lg) (y := 5) (tgt := 71) hx hb d_Md_variant_43 (by decide) (fun c43 => ?_) (fun c43 => ?_)
          · skip
            refine lv_iconst (v := 0) hx hb d_Md_variant_71 (by decide) ?_
            refine h_calli (va_runV (As := [.int (bI (isN n q)), .int 0, .int 0]) (rest := []) ⟨hx, hb, hml, hown, htg⟩ (c_Md_goes l D cs N0 H x g i f (isN n q) false false hsep hI) (cwV 3 htg (gw_V (gw_mem (i := 1092) (by decide +kernel) rfl) (gw_mem (i := 1094) (by decide +kernel) rfl) (gw_mem (i := 18) (by decide +kernel) rfl) (gw_mem (i := 38) (by decide +kernel) rfl) (gw_mem (i := 1095) (by decide +kernel) rfl)) rfl rfl rfl (by decide +kernel) ⟨Nat.le_of_ble_eq_true rfl, Nat.le_of_ble_eq_true rfl⟩) ⟨hPre.blind, hx_recv hK (ci := 0) rfl hI.1, hPre.at hB hS hsep.A⟩ rfl rfl hl.1 rfl (lv_room (Nat.le_of_ble_eq_true rfl)) d_Md_variant_72 ⟨Nat.zero_le _, Nat.zero_le _⟩) hS (fun _ h => h) (fun r72 H locs hp hz hk hS => ?_)
            obtain ⟨hI, er72⟩ := hp
            refine lv_eqi (y := 0) (er72.trans (by simp [goB, bI])) ?_
            refine lv_if_ne (x := 0) (tgt := 80) hx hb d_Md_variant_75 (by decide) (fun c75 => ?_) (fun c75 => ?_)
            · exact absurd c75 (by decide)
            · skip
              refine lv_iconst (v := 0) hx hb d_Md_variant_78 (by decide) ?_
              exact W.iret (v := 0) hx hb hr (fun t ht hW => ⟨⟨0, H, rfl, by dsimp only; have e1 : (isN n q && !decide (4 ≤ mn (tn q)) && !decide (pn ≤ 0)) = false := (by first | (simp [c12, c22, c29, c38, c43]; done) | (simp [c12, c22, c29, c38, c43]; omega) | omega | simp_all); have e2 : (!decide (lg < 0) && !decide (5 < lg) && isD fr && isD to && !decide (to < fr)) = false := (by first | (simp [c12, c22, c29, c38, c43]; done) | (simp [c12, c22, c29, c38, c43]; omega) | omega | simp_all); rw [e1, e2]; rw [if_neg (show ¬ goB (isN n q) false false = true by simp [goB])]; exact ⟨hI, rfl⟩, ht⟩, hS.F ht⟩) hS.2.2 d_Md_variant_79
          · skip
            refine lv_iload_n hx hb d_Md_variant_46 rfl (lv_at hl 4 rfl) ?_
            refine h_calli (va_runS (As := [.int fr]) (rest := [.int 0, .int (bI (isN n q)), .ref x]) ⟨hx, hb, hml, hown, htg⟩ (c_Md_isDay l D cs N0 H x g i f fr hsep hI) (cwS 1 htg (gw_S (gw_mem (i := 1112) (by decide +kernel) rfl) (gw_mem (i := 1113) (by decide +kernel) rfl) (gw_mem (i := 38) (by decide +kernel) rfl) (gw_mem (i := 1114) (by decide +kernel) rfl)) rfl rfl rfl (by decide +kernel) ⟨Nat.le_of_ble_eq_true rfl, Nat.le_of_ble_eq_true rfl⟩) ⟨hPre.blind, hPre.at hB hS hsep.A⟩ rfl rfl hl.1 rfl (lv_room (Nat.le_of_ble_eq_true rfl)) d_Md_variant_47 ⟨Nat.zero_le _, Nat.zero_le _⟩) hS (fun _ h => h) (fun r47 H locs hp hz hk hS => ?_)
            obtain ⟨hI, er47⟩ := hp
            refine lv_eqi (y := (bI (isD fr))) er47 ?_
            refine lv_if_eq (x := (bI (isD fr))) (tgt := 71) hx hb d_Md_variant_50 (by decide) (fun c50 => ?_) (fun c50 => ?_)
            · skip
              replace c50 : (isD fr) = false := bI_0 c50
              refine lv_iconst (v := 0) hx hb d_Md_variant_71 (by decide) ?_
              refine h_calli (va_runV (As := [.int (bI (isN n q)), .int 0, .int 0]) (rest := []) ⟨hx, hb, hml, hown, htg⟩ (c_Md_goes l D cs N0 H x g i f (isN n q) false false hsep hI) (cwV 3 htg (gw_V (gw_mem (i := 1092) (by decide +kernel) rfl) (gw_mem (i := 1094) (by decide +kernel) rfl) (gw_mem (i := 18) (by decide +kernel) rfl) (gw_mem (i := 38) (by decide +kernel) rfl) (gw_mem (i := 1095) (by decide +kernel) rfl)) rfl rfl rfl (by decide +kernel) ⟨Nat.le_of_ble_eq_true rfl, Nat.le_of_ble_eq_true rfl⟩) ⟨hPre.blind, hx_recv hK (ci := 0) rfl hI.1, hPre.at hB hS hsep.A⟩ rfl rfl hl.1 rfl (lv_room (Nat.le_of_ble_eq_true rfl)) d_Md_variant_72 ⟨Nat.zero_le _, Nat.zero_le _⟩) hS (fun _ h => h) (fun r72 H locs hp hz hk hS => ?_)
              obtain ⟨hI, er72⟩ := hp
              refine lv_eqi (y := 0) (er72.trans (by simp [goB, bI])) ?_
              refine lv_if_ne (x := 0) (tgt := 80) hx hb d_Md_variant_75 (by decide) (fun c75 => ?_) (fun c75 => ?_)
              · exact absurd c75 (by decide)
              · skip
                refine lv_iconst (v := 0) hx hb d_Md_variant_78 (by decide) ?_
                exact W.iret (v := 0) hx hb hr (fun t ht hW => ⟨⟨0, H, rfl, by dsimp only; have e1 : (isN n q && !decide (4 ≤ mn (tn q)) && !decide (pn ≤ 0)) = false := (by first | (simp [c12, c22, c29, c38, c43, c50]; done) | (simp [c12, c22, c29, c38, c43, c50]; omega) | omega | simp_all); have e2 : (!decide (lg < 0) && !decide (5 < lg) && isD fr && isD to && !decide (to < fr)) = false := (by first | (simp [c12, c22, c29, c38, c43, c50]; done) | (simp [c12, c22, c29, c38, c43, c50]; omega) | omega | simp_all); rw [e1, e2]; rw [if_neg (show ¬ goB (isN n q) false false = true by simp [goB])]; exact ⟨hI, rfl⟩, ht⟩, hS.F ht⟩) hS.2.2 d_Md_variant_79
            · skip
              replace c50 : (isD fr) = true := bI_1 c50
              refine lv_iload hx hb d_Md_variant_53 (lv_at hl 5 rfl) ?_
              refine h_calli (va_runS (As := [.int to]) (rest := [.int 0, .int (bI (isN n q)), .ref x]) ⟨hx, hb, hml, hown, htg⟩ (c_Md_isDay l D cs N0 H x g i f to hsep hI) (cwS 1 htg (gw_S (gw_mem (i := 1112) (by decide +kernel) rfl) (gw_mem (i := 1113) (by decide +kernel) rfl) (gw_mem (i := 38) (by decide +kernel) rfl) (gw_mem (i := 1114) (by decide +kernel) rfl)) rfl rfl rfl (by decide +kernel) ⟨Nat.le_of_ble_eq_true rfl, Nat.le_of_ble_eq_true rfl⟩) ⟨hPre.blind, hPre.at hB hS hsep.A⟩ rfl rfl hl.1 rfl (lv_room (Nat.le_of_ble_eq_true rfl)) d_Md_variant_55 ⟨Nat.zero_le _, Nat.zero_le _⟩) hS (fun _ h => h) (fun r55 H locs hp hz hk hS => ?_)
              obtain ⟨hI, er55⟩ := hp
              refine lv_eqi (y := (bI (isD to))) er55 ?_
              refine lv_if_eq (x := (bI (isD to))) (tgt := 71) hx hb d_Md_variant_58 (by decide) (fun c58 => ?_) (fun c58 => ?_)
              · skip
                replace c58 : (isD to) = false := bI_0 c58
                refine lv_iconst (v := 0) hx hb d_Md_variant_71 (by decide) ?_
                refine h_calli (va_runV (As := [.int (bI (isN n q)), .int 0, .int 0]) (rest := []) ⟨hx, hb, hml, hown, htg⟩ (c_Md_goes l D cs N0 H x g i f (isN n q) false false hsep hI) (cwV 3 htg (gw_V (gw_mem (i := 1092) (by decide +kernel) rfl) (gw_mem (i := 1094) (by decide +kernel) rfl) (gw_mem (i := 18) (by decide +kernel) rfl) (gw_mem (i := 38) (by decide +kernel) rfl) (gw_mem (i := 1095) (by decide +kernel) rfl)) rfl rfl rfl (by decide +kernel) ⟨Nat.le_of_ble_eq_true rfl, Nat.le_of_ble_eq_true rfl⟩) ⟨hPre.blind, hx_recv hK (ci := 0) rfl hI.1, hPre.at hB hS hsep.A⟩ rfl rfl hl.1 rfl (lv_room (Nat.le_of_ble_eq_true rfl)) d_Md_variant_72 ⟨Nat.zero_le _, Nat.zero_le _⟩) hS (fun _ h => h) (fun r72 H locs hp hz hk hS => ?_)
                obtain ⟨hI, er72⟩ := hp
                refine lv_eqi (y := 0) (er72.trans (by simp [goB, bI])) ?_
                refine lv_if_ne (x := 0) (tgt := 80) hx hb d_Md_variant_75 (by decide) (fun c75 => ?_) (fun c75 => ?_)
                · exact absurd c75 (by decide)
                · skip
                  refine lv_iconst (v := 0) hx hb d_Md_variant_78 (by decide) ?_
                  exact W.iret (v := 0) hx hb hr (fun t ht hW => ⟨⟨0, H, rfl, by dsimp only; have e1 : (isN n q && !decide (4 ≤ mn (tn q)) && !decide (pn ≤ 0)) = false := (by first | (simp [c12, c22, c29, c38, c43, c50, c58]; done) | (simp [c12, c22, c29, c38, c43, c50, c58]; omega) | omega | simp_all); have e2 : (!decide (lg < 0) && !decide (5 < lg) && isD fr && isD to && !decide (to < fr)) = false := (by first | (simp [c12, c22, c29, c38, c43, c50, c58]; done) | (simp [c12, c22, c29, c38, c43, c50, c58]; omega) | omega | simp_all); rw [e1, e2]; rw [if_neg (show ¬ goB (isN n q) false false = true by simp [goB])]; exact ⟨hI, rfl⟩, ht⟩, hS.F ht⟩) hS.2.2 d_Md_variant_79
              · skip
                replace c58 : (isD to) = true := bI_1 c58
                refine lv_iload_n hx hb d_Md_variant_61 rfl (lv_at hl 4 rfl) ?_
                refine lv_iload hx hb d_Md_variant_62 (lv_at hl 5 rfl) ?_
                refine lv_icmp_gt (x := fr) (y := to) (tgt := 71) hx hb d_Md_variant_64 (by decide) (fun c64 => ?_) (fun c64 => ?_)
                · skip
                  refine lv_iconst (v := 0) hx hb d_Md_variant_71 (by decide) ?_
                  refine h_calli (va_runV (As := [.int (bI (isN n q)), .int 0, .int 0]) (rest := []) ⟨hx, hb, hml, hown, htg⟩ (c_Md_goes l D cs N0 H x g i f (isN n q) false false hsep hI) (cwV 3 htg (gw_V (gw_mem (i := 1092) (by decide +kernel) rfl) (gw_mem (i := 1094) (by decide +kernel) rfl) (gw_mem (i := 18) (by decide +kernel) rfl) (gw_mem (i := 38) (by decide +kernel) rfl) (gw_mem (i := 1095) (by decide +kernel) rfl)) rfl rfl rfl (by decide +kernel) ⟨Nat.le_of_ble_eq_true rfl, Nat.le_of_ble_eq_true rfl⟩) ⟨hPre.blind, hx_recv hK (ci := 0) rfl hI.1, hPre.at hB hS hsep.A⟩ rfl rfl hl.1 rfl (lv_room (Nat.le_of_ble_eq_true rfl)) d_Md_variant_72 ⟨Nat.zero_le _, Nat.zero_le _⟩) hS (fun _ h => h) (fun r72 H locs hp hz hk hS => ?_)
                  obtain ⟨hI, er72⟩ := hp
                  refine lv_eqi (y := 0) (er72.trans (by simp [goB, bI])) ?_
                  refine lv_if_ne (x := 0) (tgt := 80) hx hb d_Md_variant_75 (by decide) (fun c75 => ?_) (fun c75 => ?_)
                  · exact absurd c75 (by decide)
                  · skip
                    refine lv_iconst (v := 0) hx hb d_Md_variant_78 (by decide) ?_
                    exact W.iret (v := 0) hx hb hr (fun t ht hW => ⟨⟨0, H, rfl, by dsimp only; have e1 : (isN n q && !decide (4 ≤ mn (tn q)) && !decide (pn ≤ 0)) = false := (by first | (simp [c12, c22, c29, c38, c43, c50, c58, c64]; done) | (simp [c12, c22, c29, c38, c43, c50, c58, c64]; omega) | omega | simp_all); have e2 : (!decide (lg < 0) && !decide (5 < lg) && isD fr && isD to && !decide (to < fr)) = false := (by first | (simp [c12, c22, c29, c38, c43, c50, c58, c64]; done) | (simp [c12, c22, c29, c38, c43, c50, c58, c64]; omega) | omega | simp_all); rw [e1, e2]; rw [if_neg (show ¬ goB (isN n q) false false = true by simp [goB])]; exact ⟨hI, rfl⟩, ht⟩, hS.F ht⟩) hS.2.2 d_Md_variant_79
                · skip
                  refine lv_iconst (v := 1) hx hb d_Md_variant_67 (by decide) ?_
                  refine lv_goto (tgt := 72) hx hb d_Md_variant_68 (by decide) ?_
                  refine h_calli (va_runV (As := [.int (bI (isN n q)), .int 0, .int 1]) (rest := []) ⟨hx, hb, hml, hown, htg⟩ (c_Md_goes l D cs N0 H x g i f (isN n q) false true hsep hI) (cwV 3 htg (gw_V (gw_mem (i := 1092) (by decide +kernel) rfl) (gw_mem (i := 1094) (by decide +kernel) rfl) (gw_mem (i := 18) (by decide +kernel) rfl) (gw_mem (i := 38) (by decide +kernel) rfl) (gw_mem (i := 1095) (by decide +kernel) rfl)) rfl rfl rfl (by decide +kernel) ⟨Nat.le_of_ble_eq_true rfl, Nat.le_of_ble_eq_true rfl⟩) ⟨hPre.blind, hx_recv hK (ci := 0) rfl hI.1, hPre.at hB hS hsep.A⟩ rfl rfl hl.1 rfl (lv_room (Nat.le_of_ble_eq_true rfl)) d_Md_variant_72 ⟨Nat.zero_le _, Nat.zero_le _⟩) hS (fun _ h => h) (fun r72 H locs hp hz hk hS => ?_)
                  obtain ⟨hI, er72⟩ := hp
                  refine lv_eqi (y := 0) (er72.trans (by simp [goB, bI])) ?_
                  refine lv_if_ne (x := 0) (tgt := 80) hx hb d_Md_variant_75 (by decide) (fun c75 => ?_) (fun c75 => ?_)
                  · exact absurd c75 (by decide)
                  · skip
                    refine lv_iconst (v := 0) hx hb d_Md_variant_78 (by decide) ?_
                    exact W.iret (v := 0) hx hb hr (fun t ht hW => ⟨⟨0, H, rfl, by dsimp only; have e1 : (isN n q && !decide (4 ≤ mn (tn q)) && !decide (pn ≤ 0)) = false := (by first | (simp [c12, c22, c29, c38, c43, c50, c58, c64]; done) | (simp [c12, c22, c29, c38, c43, c50, c58, c64]; omega) | omega | simp_all); have e2 : (!decide (lg < 0) && !decide (5 < lg) && isD fr && isD to && !decide (to < fr)) = true := (by first | (simp [c12, c22, c29, c38, c43, c50, c58, c64]; done) | (simp [c12, c22, c29, c38, c43, c50, c58, c64]; omega) | omega | simp_all); rw [e1, e2]; rw [if_neg (show ¬ goB (isN n q) false true = true by simp [goB])]; exact ⟨hI, rfl⟩, ht⟩, hS.F ht⟩) hS.2.2 d_Md_variant_79
      · skip
        replace c29 : ¬ (pn ≤ 0) := fun z9 => c29 ((nI_leI (a := pn) (b := 0) (by omega) (by omega)).mpr z9)
        refine lv_iconst (v := 1) hx hb d_Md_variant_32 (by decide) ?_
        refine lv_goto (tgt := 37) hx hb d_Md_variant_33 (by decide) ?_
        refine lv_iload_n hx hb d_Md_variant_37 rfl (lv_at hl 3 rfl) ?_
        refine lv_if_lt (x := lg) (tgt := 71) hx hb d_Md_variant_38 (by decide) (fun c38 => ?_) (fun c38 => ?_)
        · skip
          refine lv_iconst (v := 0) hx hb d_Md_variant_71 (by decide) ?_
          refine h_calli (va_runV (As := [.int (bI (isN n q)), .int 1, .int 0]) (rest := []) ⟨hx, hb, hml, hown, htg⟩ (c_Md_goes l D cs N0 H x g i f (isN n q) true false hsep hI) (cwV 3 htg (gw_V (gw_mem (i := 1092) (by decide +kernel) rfl) (gw_mem (i := 1094) (by decide +kernel) rfl) (gw_mem (i := 18) (by decide +kernel) rfl) (gw_mem (i := 38) (by decide +kernel) rfl) (gw_mem (i := 1095) (by decide +kernel) rfl)) rfl rfl rfl (by decide +kernel) ⟨Nat.le_of_ble_eq_true rfl, Nat.le_of_ble_eq_true rfl⟩) ⟨hPre.blind, hx_recv hK (ci := 0) rfl hI.1, hPre.at hB hS hsep.A⟩ rfl rfl hl.1 rfl (lv_room (Nat.le_of_ble_eq_true rfl)) d_Md_variant_72 ⟨Nat.zero_le _, Nat.zero_le _⟩) hS (fun _ h => h) (fun r72 H locs hp hz hk hS => ?_)
          obtain ⟨hI, er72⟩ := hp
          refine lv_eqi (y := 0) (er72.trans (by simp [goB, bI])) ?_
          refine lv_if_ne (x := 0) (tgt := 80) hx hb d_Md_variant_75 (by decide) (fun c75 => ?_) (fun c75 => ?_)
          · exact absurd c75 (by decide)
          · skip
            refine lv_iconst (v := 0) hx hb d_Md_variant_78 (by decide) ?_
            exact W.iret (v := 0) hx hb hr (fun t ht hW => ⟨⟨0, H, rfl, by dsimp only; have e1 : (isN n q && !decide (4 ≤ mn (tn q)) && !decide (pn ≤ 0)) = true := (by first | (simp [c12, c22, c29, c38]; done) | (simp [c12, c22, c29, c38]; omega) | omega | simp_all); have e2 : (!decide (lg < 0) && !decide (5 < lg) && isD fr && isD to && !decide (to < fr)) = false := (by first | (simp [c12, c22, c29, c38]; done) | (simp [c12, c22, c29, c38]; omega) | omega | simp_all); rw [e1, e2]; rw [if_neg (show ¬ goB (isN n q) true false = true by simp [goB])]; exact ⟨hI, rfl⟩, ht⟩, hS.F ht⟩) hS.2.2 d_Md_variant_79
        · skip
          refine lv_iload_n hx hb d_Md_variant_41 rfl (lv_at hl 3 rfl) ?_
          refine lv_iconst (v := 5) hx hb d_Md_variant_42 (by decide) ?_
          refine lv_icmp_gt (x := lg) (y := 5) (tgt := 71) hx hb d_Md_variant_43 (by decide) (fun c43 => ?_) (fun c43 => ?_)
          · skip
            refine lv_iconst (v := 0) hx hb d_Md_variant_71 (by decide) ?_
            refine h_calli (va_runV (As := [.int (bI (isN n q)), .int 1, .int 0]) (rest := []) ⟨hx, hb, hml, hown, htg⟩ (c_Md_goes l D cs N0 H x g i f (isN n q) true false hsep hI) (cwV 3 htg (gw_V (gw_mem (i := 1092) (by decide +kernel) rfl) (gw_mem (i := 1094) (by decide +kernel) rfl) (gw_mem (i := 18) (by decide +kernel) rfl) (gw_mem (i := 38) (by decide +kernel) rfl) (gw_mem (i := 1095) (by decide +kernel) rfl)) rfl rfl rfl (by decide +kernel) ⟨Nat.le_of_ble_eq_true rfl, Nat.le_of_ble_eq_true rfl⟩) ⟨hPre.blind, hx_recv hK (ci := 0) rfl hI.1, hPre.at hB hS hsep.A⟩ rfl rfl hl.1 rfl (lv_room (Nat.le_of_ble_eq_true rfl)) d_Md_variant_72 ⟨Nat.zero_le _, Nat.zero_le _⟩) hS (fun _ h => h) (fun r72 H locs hp hz hk hS => ?_)
            obtain ⟨hI, er72⟩ := hp
            refine lv_eqi (y := 0) (er72.trans (by simp [goB, bI])) ?_
            refine lv_if_ne (x := 0) (tgt := 80) hx hb d_Md_variant_75 (by decide) (fun c75 => ?_) (fun c75 => ?_)
            · exact absurd c75 (by decide)
            · skip
              refine lv_iconst (v := 0) hx hb d_Md_variant_78 (by decide) ?_
              exact W.iret (v := 0) hx hb hr (fun t ht hW => ⟨⟨0, H, rfl, by dsimp only; have e1 : (isN n q && !decide (4 ≤ mn (tn q)) && !decide (pn ≤ 0)) = true := (by first | (simp [c12, c22, c29, c38, c43]; done) | (simp [c12, c22, c29, c38, c43]; omega) | omega | simp_all); have e2 : (!decide (lg < 0) && !decide (5 < lg) && isD fr && isD to && !decide (to < fr)) = false := (by first | (simp [c12, c22, c29, c38, c43]; done) | (simp [c12, c22, c29, c38, c43]; omega) | omega | simp_all); rw [e1, e2]; rw [if_neg (show ¬ goB (isN n q) true false = true by simp [goB])]; exact ⟨hI, rfl⟩, ht⟩, hS.F ht⟩) hS.2.2 d_Md_variant_79
          · skip
            refine lv_iload_n hx hb d_Md_variant_46 rfl (lv_at hl 4 rfl) ?_
            refine h_calli (va_runS (As := [.int fr]) (rest := [.int 1, .int (bI (isN n q)), .ref x]) ⟨hx, hb, hml, hown, htg⟩ (c_Md_isDay l D cs N0 H x g i f fr hsep hI) (cwS 1 htg (gw_S (gw_mem (i := 1112) (by decide +kernel) rfl) (gw_mem (i := 1113) (by decide +kernel) rfl) (gw_mem (i := 38) (by decide +kernel) rfl) (gw_mem (i := 1114) (by decide +kernel) rfl)) rfl rfl rfl (by decide +kernel) ⟨Nat.le_of_ble_eq_true rfl, Nat.le_of_ble_eq_true rfl⟩) ⟨hPre.blind, hPre.at hB hS hsep.A⟩ rfl rfl hl.1 rfl (lv_room (Nat.le_of_ble_eq_true rfl)) d_Md_variant_47 ⟨Nat.zero_le _, Nat.zero_le _⟩) hS (fun _ h => h) (fun r47 H locs hp hz hk hS => ?_)
            obtain ⟨hI, er47⟩ := hp
            refine lv_eqi (y := (bI (isD fr))) er47 ?_
            refine lv_if_eq (x := (bI (isD fr))) (tgt := 71) hx hb d_Md_variant_50 (by decide) (fun c50 => ?_) (fun c50 => ?_)
            · skip
              replace c50 : (isD fr) = false := bI_0 c50
              refine lv_iconst (v := 0) hx hb d_Md_variant_71 (by decide) ?_
              refine h_calli (va_runV (As := [.int (bI (isN n q)), .int 1, .int 0]) (rest := []) ⟨hx, hb, hml, hown, htg⟩ (c_Md_goes l D cs N0 H x g i f (isN n q) true false hsep hI) (cwV 3 htg (gw_V (gw_mem (i := 1092) (by decide +kernel) rfl) (gw_mem (i := 1094) (by decide +kernel) rfl) (gw_mem (i := 18) (by decide +kernel) rfl) (gw_mem (i := 38) (by decide +kernel) rfl) (gw_mem (i := 1095) (by decide +kernel) rfl)) rfl rfl rfl (by decide +kernel) ⟨Nat.le_of_ble_eq_true rfl, Nat.le_of_ble_eq_true rfl⟩) ⟨hPre.blind, hx_recv hK (ci := 0) rfl hI.1, hPre.at hB hS hsep.A⟩ rfl rfl hl.1 rfl (lv_room (Nat.le_of_ble_eq_true rfl)) d_Md_variant_72 ⟨Nat.zero_le _, Nat.zero_le _⟩) hS (fun _ h => h) (fun r72 H locs hp hz hk hS => ?_)
              obtain ⟨hI, er72⟩ := hp
              refine lv_eqi (y := 0) (er72.trans (by simp [goB, bI])) ?_
              refine lv_if_ne (x := 0) (tgt := 80) hx hb d_Md_variant_75 (by decide) (fun c75 => ?_) (fun c75 => ?_)
              · exact absurd c75 (by decide)
              · skip
                refine lv_iconst (v := 0) hx hb d_Md_variant_78 (by decide) ?_
                exact W.iret (v := 0) hx hb hr (fun t ht hW => ⟨⟨0, H, rfl, by dsimp only; have e1 : (isN n q && !decide (4 ≤ mn (tn q)) && !decide (pn ≤ 0)) = true := (by first | (simp [c12, c22, c29, c38, c43, c50]; done) | (simp [c12, c22, c29, c38, c43, c50]; omega) | omega | simp_all); have e2 : (!decide (lg < 0) && !decide (5 < lg) && isD fr && isD to && !decide (to < fr)) = false := (by first | (simp [c12, c22, c29, c38, c43, c50]; done) | (simp [c12, c22, c29, c38, c43, c50]; omega) | omega | simp_all); rw [e1, e2]; rw [if_neg (show ¬ goB (isN n q) true false = true by simp [goB])]; exact ⟨hI, rfl⟩, ht⟩, hS.F ht⟩) hS.2.2 d_Md_variant_79
            · skip
              replace c50 : (isD fr) = true := bI_1 c50
              refine lv_iload hx hb d_Md_variant_53 (lv_at hl 5 rfl) ?_
              refine h_calli (va_runS (As := [.int to]) (rest := [.int 1, .int (bI (isN n q)), .ref x]) ⟨hx, hb, hml, hown, htg⟩ (c_Md_isDay l D cs N0 H x g i f to hsep hI) (cwS 1 htg (gw_S (gw_mem (i := 1112) (by decide +kernel) rfl) (gw_mem (i := 1113) (by decide +kernel) rfl) (gw_mem (i := 38) (by decide +kernel) rfl) (gw_mem (i := 1114) (by decide +kernel) rfl)) rfl rfl rfl (by decide +kernel) ⟨Nat.le_of_ble_eq_true rfl, Nat.le_of_ble_eq_true rfl⟩) ⟨hPre.blind, hPre.at hB hS hsep.A⟩ rfl rfl hl.1 rfl (lv_room (Nat.le_of_ble_eq_true rfl)) d_Md_variant_55 ⟨Nat.zero_le _, Nat.zero_le _⟩) hS (fun _ h => h) (fun r55 H locs hp hz hk hS => ?_)
              obtain ⟨hI, er55⟩ := hp
              refine lv_eqi (y := (bI (isD to))) er55 ?_
              refine lv_if_eq (x := (bI (isD to))) (tgt := 71) hx hb d_Md_variant_58 (by decide) (fun c58 => ?_) (fun c58 => ?_)
              · skip
                replace c58 : (isD to) = false := bI_0 c58
                refine lv_iconst (v := 0) hx hb d_Md_variant_71 (by decide) ?_
                refine h_calli (va_runV (As := [.int (bI (isN n q)), .int 1, .int 0]) (rest := []) ⟨hx, hb, hml, hown, htg⟩ (c_Md_goes l D cs N0 H x g i f (isN n q) true false hsep hI) (cwV 3 htg (gw_V (gw_mem (i := 1092) (by decide +kernel) rfl) (gw_mem (i := 1094) (by decide +kernel) rfl) (gw_mem (i := 18) (by decide +kernel) rfl) (gw_mem (i := 38) (by decide +kernel) rfl) (gw_mem (i := 1095) (by decide +kernel) rfl)) rfl rfl rfl (by decide +kernel) ⟨Nat.le_of_ble_eq_true rfl, Nat.le_of_ble_eq_true rfl⟩) ⟨hPre.blind, hx_recv hK (ci := 0) rfl hI.1, hPre.at hB hS hsep.A⟩ rfl rfl hl.1 rfl (lv_room (Nat.le_of_ble_eq_true rfl)) d_Md_variant_72 ⟨Nat.zero_le _, Nat.zero_le _⟩) hS (fun _ h => h) (fun r72 H locs hp hz hk hS => ?_)
                obtain ⟨hI, er72⟩ := hp
                refine lv_eqi (y := 0) (er72.trans (by simp [goB, bI])) ?_
                refine lv_if_ne (x := 0) (tgt := 80) hx hb d_Md_variant_75 (by decide) (fun c75 => ?_) (fun c75 => ?_)
                · exact absurd c75 (by decide)
                · skip
                  refine lv_iconst (v := 0) hx hb d_Md_variant_78 (by decide) ?_
                  exact W.iret (v := 0) hx hb hr (fun t ht hW => ⟨⟨0, H, rfl, by dsimp only; have e1 : (isN n q && !decide (4 ≤ mn (tn q)) && !decide (pn ≤ 0)) = true := (by first | (simp [c12, c22, c29, c38, c43, c50, c58]; done) | (simp [c12, c22, c29, c38, c43, c50, c58]; omega) | omega | simp_all); have e2 : (!decide (lg < 0) && !decide (5 < lg) && isD fr && isD to && !decide (to < fr)) = false := (by first | (simp [c12, c22, c29, c38, c43, c50, c58]; done) | (simp [c12, c22, c29, c38, c43, c50, c58]; omega) | omega | simp_all); rw [e1, e2]; rw [if_neg (show ¬ goB (isN n q) true false = true by simp [goB])]; exact ⟨hI, rfl⟩, ht⟩, hS.F ht⟩) hS.2.2 d_Md_variant_79
              · skip
                replace c58 : (isD to) = true := bI_1 c58
                refine lv_iload_n hx hb d_Md_variant_61 rfl (lv_at hl 4 rfl) ?_
                refine lv_iload hx hb d_Md_variant_62 (lv_at hl 5 rfl) ?_
                refine lv_icmp_gt (x := fr) (y := to) (tgt := 71) hx hb d_Md_variant_64 (by decide) (fun c64 => ?_) (fun c64 => ?_)
                · skip
                  refine lv_iconst (v := 0) hx hb d_Md_variant_71 (by decide) ?_
                  refine h_calli (va_runV (As := [.int (bI (isN n q)), .int 1, .int 0]) (rest := []) ⟨hx, hb, hml, hown, htg⟩ (c_Md_goes l D cs N0 H x g i f (isN n q) true false hsep hI) (cwV 3 htg (gw_V (gw_mem (i := 1092) (by decide +kernel) rfl) (gw_mem (i := 1094) (by decide +kernel) rfl) (gw_mem (i := 18) (by decide +kernel) rfl) (gw_mem (i := 38) (by decide +kernel) rfl) (gw_mem (i := 1095) (by decide +kernel) rfl)) rfl rfl rfl (by decide +kernel) ⟨Nat.le_of_ble_eq_true rfl, Nat.le_of_ble_eq_true rfl⟩) ⟨hPre.blind, hx_recv hK (ci := 0) rfl hI.1, hPre.at hB hS hsep.A⟩ rfl rfl hl.1 rfl (lv_room (Nat.le_of_ble_eq_true rfl)) d_Md_variant_72 ⟨Nat.zero_le _, Nat.zero_le _⟩) hS (fun _ h => h) (fun r72 H locs hp hz hk hS => ?_)
                  obtain ⟨hI, er72⟩ := hp
                  refine lv_eqi (y := 0) (er72.trans (by simp [goB, bI])) ?_
                  refine lv_if_ne (x := 0) (tgt := 80) hx hb d_Md_variant_75 (by decide) (fun c75 => ?_) (fun c75 => ?_)
                  · exact absurd c75 (by decide)
                  · skip
                    refine lv_iconst (v := 0) hx hb d_Md_variant_78 (by decide) ?_
                    exact W.iret (v := 0) hx hb hr (fun t ht hW => ⟨⟨0, H, rfl, by dsimp only; have e1 : (isN n q && !decide (4 ≤ mn (tn q)) && !decide (pn ≤ 0)) = true := (by first | (simp [c12, c22, c29, c38, c43, c50, c58, c64]; done) | (simp [c12, c22, c29, c38, c43, c50, c58, c64]; omega) | omega | simp_all); have e2 : (!decide (lg < 0) && !decide (5 < lg) && isD fr && isD to && !decide (to < fr)) = false := (by first | (simp [c12, c22, c29, c38, c43, c50, c58, c64]; done) | (simp [c12, c22, c29, c38, c43, c50, c58, c64]; omega) | omega | simp_all); rw [e1, e2]; rw [if_neg (show ¬ goB (isN n q) true false = true by simp [goB])]; exact ⟨hI, rfl⟩, ht⟩, hS.F ht⟩) hS.2.2 d_Md_variant_79
                · skip
                  refine lv_iconst (v := 1) hx hb d_Md_variant_67 (by decide) ?_
                  refine lv_goto (tgt := 72) hx hb d_Md_variant_68 (by decide) ?_
                  refine h_calli (va_runV (As := [.int (bI (isN n q)), .int 1, .int 1]) (rest := []) ⟨hx, hb, hml, hown, htg⟩ (c_Md_goes l D cs N0 H x g i f (isN n q) true true hsep hI) (cwV 3 htg (gw_V (gw_mem (i := 1092) (by decide +kernel) rfl) (gw_mem (i := 1094) (by decide +kernel) rfl) (gw_mem (i := 18) (by decide +kernel) rfl) (gw_mem (i := 38) (by decide +kernel) rfl) (gw_mem (i := 1095) (by decide +kernel) rfl)) rfl rfl rfl (by decide +kernel) ⟨Nat.le_of_ble_eq_true rfl, Nat.le_of_ble_eq_true rfl⟩) ⟨hPre.blind, hx_recv hK (ci := 0) rfl hI.1, hPre.at hB hS hsep.A⟩ rfl rfl hl.1 rfl (lv_room (Nat.le_of_ble_eq_true rfl)) d_Md_variant_72 ⟨Nat.zero_le _, Nat.zero_le _⟩) hS (fun _ h => h) (fun r72 H locs hp hz hk hS => ?_)
                  obtain ⟨hI, er72⟩ := hp
                  refine lv_eqi (y := (bI (goB (isN n q) true true))) er72 ?_
                  refine lv_if_ne (x := (bI (goB (isN n q) true true))) (tgt := 80) hx hb d_Md_variant_75 (by decide) (fun c75 => ?_) (fun c75 => ?_)
                  · skip
                    replace c75 : (goB (isN n q) true true) = true := bI_1 c75
                    refine lv_iconst (v := 4) hx hb d_Md_variant_80 (by decide) ?_
                    refine lv_iload_n hx hb d_Md_variant_81 rfl (lv_at hl 2 rfl) ?_
                    refine lv_eqi (y := (nI (tn q))) ea ?_
                    refine lv_imul (x := 4) (y := (nI (tn q))) hx hb d_Md_variant_82 ?_
                    refine lv_eqi (y := (nI (4 * (tn q)))) (pk_mul 4 (tn q)) ?_
                    refine lv_aload_n hx hb d_Md_variant_83 rfl (lv_at hl 1 rfl) ?_
                    refine hx_get (v := .ref (g 1)) hx hb htg iMd hown hK hI.1 rfl 4 (by decide) (htg _ (gw_mem (i := 1002) (by decide +kernel) rfl)) (fun _ h9 => h9) rfl d_Md_variant_84 ?_
                    refine lv_iload_n hx hb d_Md_variant_87 rfl (lv_at hl 2 rfl) ?_
                    refine lv_eqi (y := (nI (tn q))) ea ?_
                    refine hx_iald hx hb hK 0 (hI.2 1 (by decide)) rfl (show vp_in (nI (tn q)) 24 from vp_in_nI (n := tn q) (by omega) (by decide)) d_Md_variant_88 ?_
                    refine lv_eqi (y := (f 1 (tn q))) (show f 1 (nI (tn q)).toNatClampNeg = _ by rw [nI_clamp (by omega)]) ?_
                    refine lv_eqi (y := (nI (mn (tn q)))) hmq.1 ?_
                    refine lv_iadd (x := (nI (4 * (tn q)))) (y := (nI (mn (tn q)))) hx hb d_Md_variant_89 ?_
                    refine lv_eqi (y := (nI (4 * (tn q) + mn (tn q)))) (nI_add (4 * (tn q)) (mn (tn q))) ?_
                    refine lv_istore (lv' := [(6, .int (nI (4 * (tn q) + mn (tn q)))), (5, .int (bI (isN n q))), (0, .ref x), (1, .int q), (2, .int lg), (3, .int fr), (4, .int to)]) hx hb d_Md_variant_90 hl (by decide) rfl (fun ls hl => ?_)
                    refine lv_aload_n hx hb d_Md_variant_92 rfl (lv_at hl 2 rfl) ?_
                    refine hx_get (v := .ref (g 2)) hx hb htg iMd hown hK hI.1 rfl 5 (by decide) (htg _ (gw_mem (i := 1003) (by decide +kernel) rfl)) (fun _ h9 => h9) rfl d_Md_variant_93 ?_
                    refine lv_iload hx hb d_Md_variant_96 (lv_at hl 0 rfl) ?_
                    refine lv_aload_n hx hb d_Md_variant_98 rfl (lv_at hl 2 rfl) ?_
                    refine hx_get (v := .int (i 1)) hx hb htg iMd hown hK hI.1 rfl 1 (by decide) (htg _ (gw_mem (i := 999) (by decide +kernel) rfl)) (fun _ h9 => h9) rfl d_Md_variant_99 ?_
                    refine lv_eqi (y := (nI pn)) hpn ?_
                    refine hx_iast hx hb hK hS (Or.inr ⟨2, by decide, rfl⟩) 0 (hI.2 2 (by decide)) rfl (show vp_in (nI (4 * (tn q) + mn (tn q))) 96 from vp_in_nI (n := 4 * (tn q) + mn (tn q)) (by omega) (by decide)) d_Md_variant_102 (fun H locs hat hz ho hS => ?_)
                    replace hI : md_I D cs H x g (upd i 0 (goV (isN n q) true true)) (updA f 2 (4 * (tn q) + mn (tn q)) ((nI pn))) := md_I.puta hI hsep (by decide) (by rw [show ((nI (4 * (tn q) + mn (tn q))) : Int32).toNatClampNeg = 4 * (tn q) + mn (tn q) from nI_clamp (n := 4 * (tn q) + mn (tn q)) (by omega)] at hat; exact hat) ho
                    refine lv_iconst (v := 0) hx hb d_Md_variant_103 (by decide) ?_
                    refine lv_istore (lv' := [(7, .int 0), (6, .int (nI (4 * (tn q) + mn (tn q)))), (5, .int (bI (isN n q))), (0, .ref x), (1, .int q), (2, .int lg), (3, .int fr), (4, .int to)]) hx hb d_Md_variant_104 hl (by decide) rfl (fun ls hl => ?_)
                    have loop106 : ∀ (fuel : Nat) (S3 : Nat → Int32) (k : Nat), pn - k < fuel → (k ≤ pn) → (∀ j, j < k → S3 (12 * (4 * tn q + mn (tn q)) + j) = f 0 j) → (∀ j, (j < 12 * (4 * tn q + mn (tn q)) ∨ 12 * (4 * tn q + mn (tn q)) + k ≤ j) → S3 j = f 3 j) → ∀ (H : Heap) (locs : List Loc), md_I D cs H x g (upd i 0 (goV (isN n q) true true)) (setA (updA f 2 (4 * tn q + mn (tn q)) (nI pn)) 3 S3) → va_S (md_A x g) s.heap H locs → ∀ (ls : Array Slot), lv_has ls 8 [(0, .ref x), (1, .int q), (2, .int lg), (3, .int fr), (4, .int to), (6, .int (nI (4 * tn q + mn (tn q)))), (7, .int (nI k))] → W p l e (headSpec w_Md_variant ({ frames := 1, cells := 0, slots := 0, locals := 23 })).room s m ([.ref x, .int q, .int lg, .int fr, .int to] : List Value).toArray below meth c H locs 0 0 (MQ below (hQi (fun r H' => if goB (isN n q) (isN n q && !decide (4 ≤ mn (tn q)) && !decide (pn ≤ 0)) (!decide (lg < 0) && !decide (5 < lg) && isD fr && isD to && !decide (to < fr)) = true then (∃ S3 : Nat → Int32, md_I D cs H' x g (upd (upd i 0 (goV (isN n q) (isN n q && !decide (4 ≤ mn (tn q)) && !decide (pn ≤ 0)) (!decide (lg < 0) && !decide (5 < lg) && isD fr && isD to && !decide (to < fr)))) 1 0) (updA (updA (updA (updA (setA (updA f 2 (4 * tn q + mn (tn q)) (nI pn)) 3 S3) 4 (4 * tn q + mn (tn q)) lg) 5 (4 * tn q + mn (tn q)) fr) 6 (4 * tn q + mn (tn q)) to) 1 (tn q) (nI (mn (tn q) + 1))) ∧ (∀ j, j < pn → S3 (12 * (4 * tn q + mn (tn q)) + j) = f 0 j) ∧ (∀ j, (j < 12 * (4 * tn q + mn (tn q)) ∨ 12 * (4 * tn q + mn (tn q)) + pn ≤ j) → S3 j = f 3 j) ∧ r = nI (mn (tn q) + 1)) else (md_I D cs H' x g (upd i 0 (goV (isN n q) (isN n q && !decide (4 ≤ mn (tn q)) && !decide (pn ≤ 0)) (!decide (lg < 0) && !decide (5 < lg) && isD fr && isD to && !decide (to < fr)))) f ∧ r = 0)) (md_A x g)) ([.ref x, .int q, .int lg, .int fr, .int to] : List Value).toArray s 0 0 (md_A x g)) (F0 m 106 ls []) := by
                      intro fuel106
                      induction fuel106 with
                      | zero => intro S3 k hn; exact absurd hn (Nat.not_lt_zero _)
                      | succ fuel106 ih106 =>
                        intro S3 k hn106 hk hS1 hS2 H locs hI hS ls hl
                        refine lv_iload hx hb d_Md_variant_106 (lv_at hl 6 rfl) ?_
                        refine lv_aload_n hx hb d_Md_variant_108 rfl (lv_at hl 0 rfl) ?_
                        refine hx_get (v := .int (i 1)) hx hb htg iMd hown hK hI.1 rfl 1 (by decide) (htg _ (gw_mem (i := 999) (by decide +kernel) rfl)) (fun _ h9 => h9) rfl d_Md_variant_109 ?_
                        refine lv_eqi (y := (nI pn)) hpn ?_
                        refine lv_icmp_ge (x := (nI k)) (y := (nI pn)) (tgt := 141) hx hb d_Md_variant_112 (by decide) (fun c112 => ?_) (fun c112 => ?_)
                        · skip
                          replace c112 : pn ≤ k := (nI_leI (a := pn) (b := k) (by omega) (by omega)).mp c112
                          refine lv_aload_n hx hb d_Md_variant_141 rfl (lv_at hl 0 rfl) ?_
                          refine hx_get (v := .ref (g 4)) hx hb htg iMd hown hK hI.1 rfl 7 (by decide) (htg _ (gw_mem (i := 1005) (by decide +kernel) rfl)) (fun _ h9 => h9) rfl d_Md_variant_142 ?_
                          refine lv_iload hx hb d_Md_variant_145 (lv_at hl 5 rfl) ?_
                          refine lv_iload_n hx hb d_Md_variant_147 rfl (lv_at hl 2 rfl) ?_
                          refine hx_iast hx hb hK hS (Or.inr ⟨4, by decide, rfl⟩) 0 (hI.2 4 (by decide)) rfl (show vp_in (nI (4 * tn q + mn (tn q))) 96 from vp_in_nI (n := 4 * tn q + mn (tn q)) (by omega) (by decide)) d_Md_variant_148 (fun H locs hat hz ho hS => ?_)
                          replace hI : md_I D cs H x g (upd i 0 (goV (isN n q) true true)) (updA (setA (updA f 2 (4 * tn q + mn (tn q)) (nI pn)) 3 S3) 4 (4 * tn q + mn (tn q)) (lg)) := md_I.puta hI hsep (by decide) (by rw [show ((nI (4 * tn q + mn (tn q))) : Int32).toNatClampNeg = 4 * tn q + mn (tn q) from nI_clamp (n := 4 * tn q + mn (tn q)) (by omega)] at hat; exact hat) ho
                          refine lv_aload_n hx hb d_Md_variant_149 rfl (lv_at hl 0 rfl) ?_
                          refine hx_get (v := .ref (g 5)) hx hb htg iMd hown hK hI.1 rfl 8 (by decide) (htg _ (gw_mem (i := 1006) (by decide +kernel) rfl)) (fun _ h9 => h9) rfl d_Md_variant_150 ?_
                          refine lv_iload hx hb d_Md_variant_153 (lv_at hl 5 rfl) ?_
                          refine lv_iload_n hx hb d_Md_variant_155 rfl (lv_at hl 3 rfl) ?_
                          refine hx_iast hx hb hK hS (Or.inr ⟨5, by decide, rfl⟩) 0 (hI.2 5 (by decide)) rfl (show vp_in (nI (4 * tn q + mn (tn q))) 96 from vp_in_nI (n := 4 * tn q + mn (tn q)) (by omega) (by decide)) d_Md_variant_156 (fun H locs hat hz ho hS => ?_)
                          replace hI : md_I D cs H x g (upd i 0 (goV (isN n q) true true)) (updA (updA (setA (updA f 2 (4 * tn q + mn (tn q)) (nI pn)) 3 S3) 4 (4 * tn q + mn (tn q)) (lg)) 5 (4 * tn q + mn (tn q)) (fr)) := md_I.puta hI hsep (by decide) (by rw [show ((nI (4 * tn q + mn (tn q))) : Int32).toNatClampNeg = 4 * tn q + mn (tn q) from nI_clamp (n := 4 * tn q + mn (tn q)) (by omega)] at hat; exact hat) ho
                          refine lv_aload_n hx hb d_Md_variant_157 rfl (lv_at hl 0 rfl) ?_
                          refine hx_get (v := .ref (g 6)) hx hb htg iMd hown hK hI.1 rfl 9 (by decide) (htg _ (gw_mem (i := 1007) (by decide +kernel) rfl)) (fun _ h9 => h9) rfl d_Md_variant_158 ?_
                          refine lv_iload hx hb d_Md_variant_161 (lv_at hl 5 rfl) ?_
                          refine lv_iload hx hb d_Md_variant_163 (lv_at hl 4 rfl) ?_
                          refine hx_iast hx hb hK hS (Or.inr ⟨6, by decide, rfl⟩) 0 (hI.2 6 (by decide)) rfl (show vp_in (nI (4 * tn q + mn (tn q))) 96 from vp_in_nI (n := 4 * tn q + mn (tn q)) (by omega) (by decide)) d_Md_variant_165 (fun H locs hat hz ho hS => ?_)
                          replace hI : md_I D cs H x g (upd i 0 (goV (isN n q) true true)) (updA (updA (updA (setA (updA f 2 (4 * tn q + mn (tn q)) (nI pn)) 3 S3) 4 (4 * tn q + mn (tn q)) (lg)) 5 (4 * tn q + mn (tn q)) (fr)) 6 (4 * tn q + mn (tn q)) (to)) := md_I.puta hI hsep (by decide) (by rw [show ((nI (4 * tn q + mn (tn q))) : Int32).toNatClampNeg = 4 * tn q + mn (tn q) from nI_clamp (n := 4 * tn q + mn (tn q)) (by omega)] at hat; exact hat) ho
                          refine lv_aload_n hx hb d_Md_variant_166 rfl (lv_at hl 0 rfl) ?_
                          refine hx_get (v := .ref (g 1)) hx hb htg iMd hown hK hI.1 rfl 4 (by decide) (htg _ (gw_mem (i := 1002) (by decide +kernel) rfl)) (fun _ h9 => h9) rfl d_Md_variant_167 ?_
                          refine lv_iload_n hx hb d_Md_variant_170 rfl (lv_at hl 1 rfl) ?_
                          refine lv_eqi (y := (nI (tn q))) ea ?_
                          refine lv_dup2_11 hx hb d_Md_variant_171 rfl rfl ?_
                          refine hx_iald hx hb hK 0 (hI.2 1 (by decide)) rfl (show vp_in (nI (tn q)) 24 from vp_in_nI (n := tn q) (by omega) (by decide)) d_Md_variant_172 ?_
                          refine lv_eqi (y := ((updA (updA (updA (setA (updA f 2 (4 * tn q + mn (tn q)) (nI pn)) 3 S3) 4 (4 * tn q + mn (tn q)) (lg)) 5 (4 * tn q + mn (tn q)) (fr)) 6 (4 * tn q + mn (tn q)) (to)) 1 (tn q))) (show (updA (updA (updA (setA (updA f 2 (4 * tn q + mn (tn q)) (nI pn)) 3 S3) 4 (4 * tn q + mn (tn q)) (lg)) 5 (4 * tn q + mn (tn q)) (fr)) 6 (4 * tn q + mn (tn q)) (to)) 1 (nI (tn q)).toNatClampNeg = _ by rw [nI_clamp (by omega)]) ?_
                          refine lv_eqi (y := (nI (mn (tn q)))) hmq.1 ?_
                          refine lv_iconst (v := 1) hx hb d_Md_variant_173 (by decide) ?_
                          refine lv_iadd (x := (nI (mn (tn q)))) (y := 1) hx hb d_Md_variant_174 ?_
                          refine lv_eqi (y := (nI (mn (tn q) + 1))) (nI_add (mn (tn q)) 1) ?_
                          refine hx_iast hx hb hK hS (Or.inr ⟨1, by decide, rfl⟩) 0 (hI.2 1 (by decide)) rfl (show vp_in (nI (tn q)) 24 from vp_in_nI (n := tn q) (by omega) (by decide)) d_Md_variant_175 (fun H locs hat hz ho hS => ?_)
                          replace hI : md_I D cs H x g (upd i 0 (goV (isN n q) true true)) (updA (updA (updA (updA (setA (updA f 2 (4 * tn q + mn (tn q)) (nI pn)) 3 S3) 4 (4 * tn q + mn (tn q)) (lg)) 5 (4 * tn q + mn (tn q)) (fr)) 6 (4 * tn q + mn (tn q)) (to)) 1 (tn q) ((nI (mn (tn q) + 1)))) := md_I.puta hI hsep (by decide) (by rw [show ((nI (tn q)) : Int32).toNatClampNeg = tn q from nI_clamp (n := tn q) (by omega)] at hat; exact hat) ho
                          refine lv_aload_n hx hb d_Md_variant_176 rfl (lv_at hl 0 rfl) ?_
                          refine lv_iconst (v := 0) hx hb d_Md_variant_177 (by decide) ?_
                          refine hx_put (ty := .int) (v := .int 0) hx hb htg iMd tMd tMd_ok nMd hown hK hI.1 hS (Or.inl rfl) rfl 1 (by decide) (htg _ (gw_mem (i := 999) (by decide +kernel) rfl)) (fun _ h9 => h9) rfl (by decide +kernel) rfl rfl (Nat.le_of_ble_eq_true rfl) d_Md_variant_178 (fun H locs hat hz ho hS => ?_)
                          replace hI : md_I D cs H x g (upd (upd i 0 (goV (isN n q) true true)) 1 (0)) (updA (updA (updA (updA (setA (updA f 2 (4 * tn q + mn (tn q)) (nI pn)) 3 S3) 4 (4 * tn q + mn (tn q)) (lg)) 5 (4 * tn q + mn (tn q)) (fr)) 6 (4 * tn q + mn (tn q)) (to)) 1 (tn q) ((nI (mn (tn q) + 1)))) := md_I.puti hI hsep hat ho rfl
                          refine lv_aload_n hx hb d_Md_variant_181 rfl (lv_at hl 0 rfl) ?_
                          refine hx_get (v := .ref (g 1)) hx hb htg iMd hown hK hI.1 rfl 4 (by decide) (htg _ (gw_mem (i := 1002) (by decide +kernel) rfl)) (fun _ h9 => h9) rfl d_Md_variant_182 ?_
                          refine lv_iload_n hx hb d_Md_variant_185 rfl (lv_at hl 1 rfl) ?_
                          refine lv_eqi (y := (nI (tn q))) ea ?_
                          refine hx_iald hx hb hK 0 (hI.2 1 (by decide)) rfl (show vp_in (nI (tn q)) 24 from vp_in_nI (n := tn q) (by omega) (by decide)) d_Md_variant_186 ?_
                          refine lv_eqi (y := ((updA (updA (updA (updA (setA (updA f 2 (4 * tn q + mn (tn q)) (nI pn)) 3 S3) 4 (4 * tn q + mn (tn q)) (lg)) 5 (4 * tn q + mn (tn q)) (fr)) 6 (4 * tn q + mn (tn q)) (to)) 1 (tn q) ((nI (mn (tn q) + 1)))) 1 (tn q))) (show (updA (updA (updA (updA (setA (updA f 2 (4 * tn q + mn (tn q)) (nI pn)) 3 S3) 4 (4 * tn q + mn (tn q)) (lg)) 5 (4 * tn q + mn (tn q)) (fr)) 6 (4 * tn q + mn (tn q)) (to)) 1 (tn q) ((nI (mn (tn q) + 1)))) 1 (nI (tn q)).toNatClampNeg = _ by rw [nI_clamp (by omega)]) ?_
                          refine lv_eqi (y := (nI (mn (tn q) + 1))) (by rw [updA_self, upd_self]) ?_
                          exact W.iret (v := (nI (mn (tn q) + 1))) hx hb hr (fun t ht hW => ⟨⟨(nI (mn (tn q) + 1)), H, rfl, by dsimp only; have e1 : (isN n q && !decide (4 ≤ mn (tn q)) && !decide (pn ≤ 0)) = true := (by first | (simp [c12, c22, c29, c38, c43, c50, c58, c64, c75, c112]; done) | (simp [c12, c22, c29, c38, c43, c50, c58, c64, c75, c112]; omega) | omega | simp_all); have e2 : (!decide (lg < 0) && !decide (5 < lg) && isD fr && isD to && !decide (to < fr)) = true := (by first | (simp [c12, c22, c29, c38, c43, c50, c58, c64, c75, c112]; done) | (simp [c12, c22, c29, c38, c43, c50, c58, c64, c75, c112]; omega) | omega | simp_all); rw [e1, e2]; rw [if_pos c75]; exact ⟨S3, hI, (by have e9 : k = pn := (by omega); subst e9; exact hS1), (by have e9 : k = pn := (by omega); subst e9; exact hS2), rfl⟩, ht⟩, hS.F ht⟩) hS.2.2 d_Md_variant_187
                        · skip
                          replace c112 : ¬ (pn ≤ k) := fun z9 => c112 ((nI_leI (a := pn) (b := k) (by omega) (by omega)).mpr z9)
                          refine lv_aload_n hx hb d_Md_variant_115 rfl (lv_at hl 0 rfl) ?_
                          refine hx_get (v := .ref (g 3)) hx hb htg iMd hown hK hI.1 rfl 6 (by decide) (htg _ (gw_mem (i := 1004) (by decide +kernel) rfl)) (fun _ h9 => h9) rfl d_Md_variant_116 ?_
                          refine lv_bipush (v := 12) hx hb d_Md_variant_119 (by decide) ?_
                          refine lv_iload hx hb d_Md_variant_121 (lv_at hl 5 rfl) ?_
                          refine lv_imul (x := 12) (y := (nI (4 * tn q + mn (tn q)))) hx hb d_Md_variant_123 ?_
                          refine lv_eqi (y := (nI (12 * (4 * tn q + mn (tn q))))) (pk_mul 12 (4 * tn q + mn (tn q))) ?_
                          refine lv_iload hx hb d_Md_variant_124 (lv_at hl 6 rfl) ?_
                          refine lv_iadd (x := (nI (12 * (4 * tn q + mn (tn q))))) (y := (nI k)) hx hb d_Md_variant_126 ?_
                          refine lv_eqi (y := (nI (12 * (4 * tn q + mn (tn q)) + k))) (nI_add (12 * (4 * tn q + mn (tn q))) k) ?_
                          refine lv_aload_n hx hb d_Md_variant_127 rfl (lv_at hl 0 rfl) ?_
                          refine hx_get (v := .ref (g 0)) hx hb htg iMd hown hK hI.1 rfl 2 (by decide) (htg _ (gw_mem (i := 1000) (by decide +kernel) rfl)) (fun _ h9 => h9) rfl d_Md_variant_128 ?_
                          refine lv_iload hx hb d_Md_variant_131 (lv_at hl 6 rfl) ?_
                          refine hx_iald hx hb hK 0 (hI.2 0 (by decide)) rfl (show vp_in (nI k) 12 from vp_in_nI (n := k) (by omega) (by decide)) d_Md_variant_133 ?_
                          refine lv_eqi (y := ((setA (updA f 2 (4 * tn q + mn (tn q)) (nI pn)) 3 S3) 0 k)) (show (setA (updA f 2 (4 * tn q + mn (tn q)) (nI pn)) 3 S3) 0 (nI k).toNatClampNeg = _ by rw [nI_clamp (by omega)]) ?_
                          refine lv_eqi (y := (f 0 k)) (by rw [setA_ne (by decide), updA_ne (by decide)]) ?_
                          refine hx_iast hx hb hK hS (Or.inr ⟨3, by decide, rfl⟩) 0 (hI.2 3 (by decide)) rfl (show vp_in (nI (12 * (4 * tn q + mn (tn q)) + k)) 1152 from vp_in_nI (n := 12 * (4 * tn q + mn (tn q)) + k) (by omega) (by decide)) d_Md_variant_134 (fun H locs hat hz ho hS => ?_)
                          replace hI : md_I D cs H x g (upd i 0 (goV (isN n q) true true)) (updA (setA (updA f 2 (4 * tn q + mn (tn q)) (nI pn)) 3 S3) 3 (12 * (4 * tn q + mn (tn q)) + k) ((f 0 k))) := md_I.puta hI hsep (by decide) (by rw [show ((nI (12 * (4 * tn q + mn (tn q)) + k)) : Int32).toNatClampNeg = 12 * (4 * tn q + mn (tn q)) + k from nI_clamp (n := 12 * (4 * tn q + mn (tn q)) + k) (by omega)] at hat; exact hat) ho
                          refine lv_iinc (v := (nI (k + 1))) (lv' := [(7, .int (nI (k + 1))), (0, .ref x), (1, .int q), (2, .int lg), (3, .int fr), (4, .int to), (6, .int (nI (4 * tn q + mn (tn q))))]) hx hb d_Md_variant_135 hl (k := 6) rfl (nI_1 k) (by decide) rfl (fun ls hl => ?_)
                          refine lv_goto (tgt := 106) hx hb d_Md_variant_138 (by decide) ?_
                          rw [updA_setA3] at hI
                          exact ih106  _ (k + 1) (by omega) (by omega) (fun j hj => by by_cases e9 : j = k; (· subst e9; rw [upd_self]); (· rw [upd_ne (by omega)]; exact hS1 j (by omega))) (fun j hj => by rw [upd_ne (by omega)]; exact hS2 j (by omega)) _ _ hI hS ls (lv_sub hl [1, 2, 3, 4, 5, 6, 0] rfl)
                    rw [show updA f 2 (4 * tn q + mn (tn q)) (nI pn) = setA (updA f 2 (4 * tn q + mn (tn q)) (nI pn)) 3 (f 3) from setA_of (k := 3) (fun _ _ => rfl)] at hI
                    exact loop106 ((pn - 0) + 1) (f 3) 0 (Nat.lt_succ_self _) (Nat.zero_le _) (fun j hj => absurd hj (Nat.not_lt_zero j)) (fun _ _ => rfl) _ _ hI hS ls (lv_sub hl [3, 4, 5, 6, 7, 1, 0] rfl)
                  · skip
                    replace c75 : (goB (isN n q) true true) = false := bI_0 c75
                    refine lv_iconst (v := 0) hx hb d_Md_variant_78 (by decide) ?_
                    exact W.iret (v := 0) hx hb hr (fun t ht hW => ⟨⟨0, H, rfl, by dsimp only; have e1 : (isN n q && !decide (4 ≤ mn (tn q)) && !decide (pn ≤ 0)) = true := (by first | (simp [c12, c22, c29, c38, c43, c50, c58, c64, c75]; done) | (simp [c12, c22, c29, c38, c43, c50, c58, c64, c75]; omega) | omega | simp_all); have e2 : (!decide (lg < 0) && !decide (5 < lg) && isD fr && isD to && !decide (to < fr)) = true := (by first | (simp [c12, c22, c29, c38, c43, c50, c58, c64, c75]; done) | (simp [c12, c22, c29, c38, c43, c50, c58, c64, c75]; omega) | omega | simp_all); rw [e1, e2]; rw [if_neg (show ¬ goB (isN n q) true true = true by rw [c75]; decide)]; exact ⟨hI, rfl⟩, ht⟩, hS.F ht⟩) hS.2.2 d_Md_variant_79
end
section
theorem upd_upd {f : Nat → Int32} {k : Nat} {v w : Int32} : upd (upd f k v) k w = upd f k w := by
  funext j
  by_cases e : j = k
  · subst e; rw [upd_self, upd_self]
  · rw [upd_ne e, upd_ne e, upd_ne e]
def selL (Q : Nat → Bool) (m : Nat) : List Nat := (List.range m).filter Q
theorem sel_hit {Q : Nat → Bool} {m : Nat} (h : Q m = true) : selL Q (m + 1) = selL Q m ++ [m] := by
  unfold selL
  rw [List.range_succ, List.filter_append]
  simp [h]
theorem sel_miss {Q : Nat → Bool} {m : Nat} (h : Q m = false) : selL Q (m + 1) = selL Q m := by
  unfold selL
  rw [List.range_succ, List.filter_append]
  simp [h]
theorem sel_skip {Q : Nat → Bool} {m : Nat} : ∀ d, (∀ p, m ≤ p → p < m + d → Q p = false) → selL Q (m + d) = selL Q m := by
  intro d
  induction d with
  | zero => intro _; rfl
  | succ d ih =>
    intro h
    rw [show m + (d + 1) = (m + d) + 1 by omega, sel_miss (h (m + d) (by omega) (by omega))]
    exact ih (fun p h1 h2 => h p h1 (by omega))
theorem sel_len {Q T : Nat → Bool} {m M : Nat} (hm : m ≤ M) (h : ∀ p, Q p = true → T p = true) : (selL Q m).length ≤ (selL T M).length := by
  have h1 : (selL Q m).length ≤ (selL T m).length := by
    unfold selL
    rw [← List.countP_eq_length_filter, ← List.countP_eq_length_filter]
    exact List.countP_mono_left (fun p _ hp => h p hp)
  have h2 : ∀ d, (selL T m).length ≤ (selL T (m + d)).length := by
    intro d
    induction d with
    | zero => exact Nat.le_refl _
    | succ d ih =>
      rw [show m + (d + 1) = (m + d) + 1 by omega]
      cases e : T (m + d) with
      | true => rw [sel_hit e, List.length_append]; simp; omega
      | false => rw [sel_miss e]; exact ih
  have h3 := h2 (M - m)
  rw [show m + (M - m) = M by omega] at h3
  omega
def clI (Q : Nat → Bool) (m : Nat) (A B : Nat → Int32) (c : Nat) : Prop := c = (selL Q m).length ∧ ∀ k p, (selL Q m)[k]? = some p → A k = nI (p / 24) ∧ B k = nI (p % 24)
theorem clI.miss {Q : Nat → Bool} {m c : Nat} {A B : Nat → Int32} (h : clI Q m A B c) (hq : Q m = false) : clI Q (m + 1) A B c := by
  unfold clI; rw [sel_miss hq]; exact h
theorem clI.skip {Q : Nat → Bool} {m m' c : Nat} {A B : Nat → Int32} (h : clI Q m A B c) (hm : m ≤ m') (hq : ∀ p, m ≤ p → p < m' → Q p = false) : clI Q m' A B c := by
  have e := sel_skip (Q := Q) (m := m) (m' - m) (fun p h1 h2 => hq p h1 (by omega))
  rw [show m + (m' - m) = m' by omega] at e
  unfold clI; rw [e]; exact h
theorem clI.hit {Q : Nat → Bool} {a b c : Nat} {A B : Nat → Int32} (h : clI Q (24 * a + b) A B c) (hq : Q (24 * a + b) = true) (hb : b < 24) : clI Q (24 * a + b + 1) (upd A c (nI a)) (upd B c (nI b)) (c + 1) := by
  unfold clI
  rw [sel_hit hq]
  refine ⟨by rw [List.length_append, ← h.1]; rfl, fun k p hk => ?_⟩
  by_cases e : k < (selL Q (24 * a + b)).length
  · rw [List.getElem?_append_left e] at hk
    rw [upd_ne (by rw [h.1]; omega), upd_ne (by rw [h.1]; omega)]
    exact h.2 k p hk
  · rw [List.getElem?_append_right (by omega)] at hk
    have e2 : k - (selL Q (24 * a + b)).length < 1 := (List.getElem?_eq_some_iff.mp hk).1
    have e3 : k = c := by rw [h.1]; omega
    rw [show k - (selL Q (24 * a + b)).length = 0 by omega] at hk
    cases hk
    subst e3
    rw [upd_self, upd_self, show (24 * a + b) / 24 = a by omega, show (24 * a + b) % 24 = b by omega]
    exact ⟨rfl, rfl⟩
def triB : Nat → Bool := fun p => decide (p / 24 < p % 24)
theorem tri_276 : (selL triB 576).length = 276 := by decide +kernel
theorem clI.lt {Q : Nat → Bool} {m c : Nat} {A B : Nat → Int32} (h : clI Q m A B c) (hq : Q m = true) (hm : m < 576) (ht : ∀ p, Q p = true → triB p = true) : c < 276 := by
  have h1 := sel_len (Q := Q) (T := triB) (m := m + 1) (M := 576) (by omega) ht
  rw [sel_hit hq, List.length_append, ← h.1, tri_276] at h1
  have h2 : ([m] : List Nat).length = 1 := rfl
  omega
noncomputable def canQ (f : Nat → Nat → Int32) (ln mn mo mt : Nat → Nat) (mg n : Nat) (lq : Int32) : Nat → Bool := fun p => triB p && (decide (p % 24 < n) && (decide (f 9 p = 0) && (!oneB mo mt (holdB f 100000) mg (p / 24) (p % 24) && !decide (likeV f ln mn (p / 24) (p % 24) < lq))))
theorem canQ_tri {f : Nat → Nat → Int32} {ln mn mo mt : Nat → Nat} {mg n : Nat} {lq : Int32} (p : Nat) (h : canQ f ln mn mo mt mg n lq p = true) : triB p = true := by
  unfold canQ at h
  cases e : triB p with
  | true => rfl
  | false => rw [e] at h; exact absurd h (by simp)
theorem canQ_at {f : Nat → Nat → Int32} {ln mn mo mt : Nat → Nat} {mg n a b : Nat} {lq : Int32} (hab : a < b) (hbn : b < n) (hn : n ≤ 24) : canQ f ln mn mo mt mg n lq (24 * a + b) = (decide (f 9 (24 * a + b) = 0) && (!oneB mo mt (holdB f 100000) mg a b && !decide (likeV f ln mn a b < lq))) := by
  unfold canQ triB
  rw [show (24 * a + b) / 24 = a by omega, show (24 * a + b) % 24 = b by omega, decide_eq_true hab, decide_eq_true hbn]
  rfl
theorem canQ_no {f : Nat → Nat → Int32} {ln mn mo mt : Nat → Nat} {mg n p : Nat} {lq : Int32} (h : p % 24 ≤ p / 24 ∨ n ≤ p % 24) : canQ f ln mn mo mt mg n lq p = false := by
  unfold canQ triB
  rcases h with h | h
  · rw [decide_eq_false (by omega)]; rfl
  · rw [decide_eq_false (p := p % 24 < n) (by omega)]; simp
theorem agr.of4 {F f : Nat → Nat → Int32} (h : ∀ q, q ≠ 17 → q ≠ 18 → q ≠ 19 → q ≠ 21 → F q = f q) : agr F f := ⟨h 1 (by decide) (by decide) (by decide) (by decide), h 2 (by decide) (by decide) (by decide) (by decide), h 3 (by decide) (by decide) (by decide) (by decide), h 4 (by decide) (by decide) (by decide) (by decide), h 7 (by decide) (by decide) (by decide) (by decide), h 8 (by decide) (by decide) (by decide) (by decide)⟩
def y_Md_candidates : MethodName := ⟨"NameMergesModel", "candidates", "(I)I"⟩
abbrev w_Md_candidates : List Cond := Cond.code y_Md_candidates prog_7_method_15_code 4 (Option.some Jvm.ClassFile.FieldType.int) :: gw
theorem d_Md_candidates_0 : decode prog_7_method_15_code 0 = .ok (.aload_n 0, 1) := by decide +kernel
theorem d_Md_candidates_1 : decode prog_7_method_15_code 1 = .ok (.iconst 0, 1) := by decide +kernel
theorem d_Md_candidates_2 : decode prog_7_method_15_code 2 = .ok (.putfield 77, 3) := by decide +kernel
theorem d_Md_candidates_5 : decode prog_7_method_15_code 5 = .ok (.aload_n 0, 1) := by decide +kernel
theorem d_Md_candidates_6 : decode prog_7_method_15_code 6 = .ok (.ldc 84, 2) := by decide +kernel
theorem d_Md_candidates_8 : decode prog_7_method_15_code 8 = .ok (.invokevirtual 109, 3) := by decide +kernel
theorem d_Md_candidates_11 : decode prog_7_method_15_code 11 = .ok (.aload_n 0, 1) := by decide +kernel
theorem d_Md_candidates_12 : decode prog_7_method_15_code 12 = .ok (.iconst 0, 1) := by decide +kernel
theorem d_Md_candidates_13 : decode prog_7_method_15_code 13 = .ok (.putfield 113, 3) := by decide +kernel
theorem d_Md_candidates_16 : decode prog_7_method_15_code 16 = .ok (.iconst 0, 1) := by decide +kernel
theorem d_Md_candidates_17 : decode prog_7_method_15_code 17 = .ok (.istore_n 2, 1) := by decide +kernel
theorem d_Md_candidates_18 : decode prog_7_method_15_code 18 = .ok (.iload_n 2, 1) := by decide +kernel
theorem d_Md_candidates_19 : decode prog_7_method_15_code 19 = .ok (.aload_n 0, 1) := by decide +kernel
theorem d_Md_candidates_20 : decode prog_7_method_15_code 20 = .ok (.getfield 81, 3) := by decide +kernel
theorem d_Md_candidates_23 : decode prog_7_method_15_code 23 = .ok (.if_icmp .ge 96, 3) := by decide +kernel
theorem d_Md_candidates_26 : decode prog_7_method_15_code 26 = .ok (.iload_n 2, 1) := by decide +kernel
theorem d_Md_candidates_27 : decode prog_7_method_15_code 27 = .ok (.iconst 1, 1) := by decide +kernel
theorem d_Md_candidates_28 : decode prog_7_method_15_code 28 = .ok (.iadd, 1) := by decide +kernel
theorem d_Md_candidates_29 : decode prog_7_method_15_code 29 = .ok (.istore_n 3, 1) := by decide +kernel
theorem d_Md_candidates_30 : decode prog_7_method_15_code 30 = .ok (.iload_n 3, 1) := by decide +kernel
theorem d_Md_candidates_31 : decode prog_7_method_15_code 31 = .ok (.aload_n 0, 1) := by decide +kernel
theorem d_Md_candidates_32 : decode prog_7_method_15_code 32 = .ok (.getfield 81, 3) := by decide +kernel
theorem d_Md_candidates_35 : decode prog_7_method_15_code 35 = .ok (.if_icmp .ge 78, 3) := by decide +kernel
theorem d_Md_candidates_38 : decode prog_7_method_15_code 38 = .ok (.aload_n 0, 1) := by decide +kernel
theorem d_Md_candidates_39 : decode prog_7_method_15_code 39 = .ok (.getfield 37, 3) := by decide +kernel
theorem d_Md_candidates_42 : decode prog_7_method_15_code 42 = .ok (.bipush 24, 2) := by decide +kernel
theorem d_Md_candidates_44 : decode prog_7_method_15_code 44 = .ok (.iload_n 2, 1) := by decide +kernel
theorem d_Md_candidates_45 : decode prog_7_method_15_code 45 = .ok (.imul, 1) := by decide +kernel
theorem d_Md_candidates_46 : decode prog_7_method_15_code 46 = .ok (.iload_n 3, 1) := by decide +kernel
theorem d_Md_candidates_47 : decode prog_7_method_15_code 47 = .ok (.iadd, 1) := by decide +kernel
theorem d_Md_candidates_48 : decode prog_7_method_15_code 48 = .ok (.iaload, 1) := by decide +kernel
theorem d_Md_candidates_49 : decode prog_7_method_15_code 49 = .ok (.ifCond .ne 58, 3) := by decide +kernel
theorem d_Md_candidates_52 : decode prog_7_method_15_code 52 = .ok (.aload_n 0, 1) := by decide +kernel
theorem d_Md_candidates_53 : decode prog_7_method_15_code 53 = .ok (.getfield 62, 3) := by decide +kernel
theorem d_Md_candidates_56 : decode prog_7_method_15_code 56 = .ok (.iload_n 2, 1) := by decide +kernel
theorem d_Md_candidates_57 : decode prog_7_method_15_code 57 = .ok (.iaload, 1) := by decide +kernel
theorem d_Md_candidates_58 : decode prog_7_method_15_code 58 = .ok (.aload_n 0, 1) := by decide +kernel
theorem d_Md_candidates_59 : decode prog_7_method_15_code 59 = .ok (.getfield 62, 3) := by decide +kernel
theorem d_Md_candidates_62 : decode prog_7_method_15_code 62 = .ok (.iload_n 3, 1) := by decide +kernel
theorem d_Md_candidates_63 : decode prog_7_method_15_code 63 = .ok (.iaload, 1) := by decide +kernel
theorem d_Md_candidates_64 : decode prog_7_method_15_code 64 = .ok (.if_icmp .eq 43, 3) := by decide +kernel
theorem d_Md_candidates_67 : decode prog_7_method_15_code 67 = .ok (.aload_n 0, 1) := by decide +kernel
theorem d_Md_candidates_68 : decode prog_7_method_15_code 68 = .ok (.iload_n 2, 1) := by decide +kernel
theorem d_Md_candidates_69 : decode prog_7_method_15_code 69 = .ok (.iload_n 3, 1) := by decide +kernel
theorem d_Md_candidates_70 : decode prog_7_method_15_code 70 = .ok (.invokevirtual 103, 3) := by decide +kernel
theorem d_Md_candidates_73 : decode prog_7_method_15_code 73 = .ok (.iload_n 1, 1) := by decide +kernel
theorem d_Md_candidates_74 : decode prog_7_method_15_code 74 = .ok (.if_icmp .lt 33, 3) := by decide +kernel
theorem d_Md_candidates_77 : decode prog_7_method_15_code 77 = .ok (.aload_n 0, 1) := by decide +kernel
theorem d_Md_candidates_78 : decode prog_7_method_15_code 78 = .ok (.getfield 65, 3) := by decide +kernel
theorem d_Md_candidates_81 : decode prog_7_method_15_code 81 = .ok (.aload_n 0, 1) := by decide +kernel
theorem d_Md_candidates_82 : decode prog_7_method_15_code 82 = .ok (.getfield 113, 3) := by decide +kernel
theorem d_Md_candidates_85 : decode prog_7_method_15_code 85 = .ok (.iload_n 2, 1) := by decide +kernel
theorem d_Md_candidates_86 : decode prog_7_method_15_code 86 = .ok (.iastore, 1) := by decide +kernel
theorem d_Md_candidates_87 : decode prog_7_method_15_code 87 = .ok (.aload_n 0, 1) := by decide +kernel
theorem d_Md_candidates_88 : decode prog_7_method_15_code 88 = .ok (.getfield 68, 3) := by decide +kernel
theorem d_Md_candidates_91 : decode prog_7_method_15_code 91 = .ok (.aload_n 0, 1) := by decide +kernel
theorem d_Md_candidates_92 : decode prog_7_method_15_code 92 = .ok (.getfield 113, 3) := by decide +kernel
theorem d_Md_candidates_95 : decode prog_7_method_15_code 95 = .ok (.iload_n 3, 1) := by decide +kernel
theorem d_Md_candidates_96 : decode prog_7_method_15_code 96 = .ok (.iastore, 1) := by decide +kernel
theorem d_Md_candidates_97 : decode prog_7_method_15_code 97 = .ok (.aload_n 0, 1) := by decide +kernel
theorem d_Md_candidates_98 : decode prog_7_method_15_code 98 = .ok (.dup, 1) := by decide +kernel
theorem d_Md_candidates_99 : decode prog_7_method_15_code 99 = .ok (.getfield 113, 3) := by decide +kernel
theorem d_Md_candidates_102 : decode prog_7_method_15_code 102 = .ok (.iconst 1, 1) := by decide +kernel
theorem d_Md_candidates_103 : decode prog_7_method_15_code 103 = .ok (.iadd, 1) := by decide +kernel
theorem d_Md_candidates_104 : decode prog_7_method_15_code 104 = .ok (.putfield 113, 3) := by decide +kernel
theorem d_Md_candidates_107 : decode prog_7_method_15_code 107 = .ok (.iinc 3 1, 3) := by decide +kernel
theorem d_Md_candidates_110 : decode prog_7_method_15_code 110 = .ok (.goto (-80), 3) := by decide +kernel
theorem d_Md_candidates_113 : decode prog_7_method_15_code 113 = .ok (.iinc 2 1, 3) := by decide +kernel
theorem d_Md_candidates_116 : decode prog_7_method_15_code 116 = .ok (.goto (-98), 3) := by decide +kernel
theorem d_Md_candidates_119 : decode prog_7_method_15_code 119 = .ok (.aload_n 0, 1) := by decide +kernel
theorem d_Md_candidates_120 : decode prog_7_method_15_code 120 = .ok (.getfield 113, 3) := by decide +kernel
theorem d_Md_candidates_123 : decode prog_7_method_15_code 123 = .ok (.ireturn, 1) := by decide +kernel
set_option maxHeartbeats 4000000 in
set_option maxRecDepth 100000 in
theorem c_Md_candidates (l : Launch) (D : va_G) (cs : Nat → ClassId) (N0 : Nat) (H : Heap) (x : Nat) (g : Nat → Nat) (i : Nat → Int32) (f : Nat → Nat → Int32) (lq : Int32) (hsep : md_sep N0 x g) (hI : md_I D cs H x g i f) (n : Nat) (hn : i 2 = nI n) (hn24 : n ≤ 24) (mg : Nat) (hmg : i 3 = nI mg) (hmg60 : mg ≤ 60) (mo mt : Nat → Nat) (hone : ∀ k, k < mg → f 13 k = nI (mo k) ∧ mo k < 24) (hoth : ∀ k, k < mg → f 14 k = nI (mt k) ∧ mt k < 24) (mn ln : Nat → Nat) (hV : wfV f mn ln) : Met l y_Md_candidates w_Md_candidates ({ frames := 2, cells := 0, slots := 0, locals := 52 }) (hPre D cs N0 [.ref x, .int lq] H) (hQi (fun r H' => ∃ (c9 : Nat) (F9 : Nat → Nat → Int32), md_I D cs H' x g (upd (upd i 0 0) 4 (nI c9)) F9 ∧ r = nI c9 ∧ clI (canQ f ln mn mo mt mg n lq) 576 (F9 18) (F9 19) c9 ∧ ∀ q, q ≠ 17 → q ≠ 18 → q ≠ 19 → q ≠ 21 → F9 q = f q) (md_A x g)) 0 0 (md_A x g) := by
  refine Met.ofW (cc := prog_7_method_15_code) (maxL := 4) (ret := (Option.some Jvm.ClassFile.FieldType.int)) (by decide) rfl ?_
  intro p e s m args below meth c s₁ B hml hv
  obtain ⟨rfl, rfl, hB⟩ := hv
  have hx := B.exec
  have hb := B.bytes
  have hr := B.returns
  have hts := atoms_spec (ws := w_Md_candidates) B.pre
  have htg : ∀ w ∈ gw, w.before _ s = true := fun w h => hts w (List.mem_cons_of_mem _ h)
  have hown : s.vm.findClass "NameMergesModel" = some m.cls := findClass_of_methodNamed B.named
  have hlocks := B.notSynchronized
  have hK := hB.1
  have hS : va_S (md_A x g) s.heap s.heap [] := va_S.rf
  obtain ⟨H, hH⟩ : ∃ z : Heap, z = s.heap := ⟨_, rfl⟩
  rw [← hH] at hI
  have hS : va_S (md_A x g) s.heap H [] := by rw [hH]; exact va_S.rf
  have hl := lv_entry ([.ref x, .int lq]) (n := 4) (Nat.le_of_ble_eq_true rfl)
  rw [lg_entry_eq, ← hH]
  generalize (lg_sl ([.ref x, .int lq]) ++ List.replicate (4 - (lg_sl ([.ref x, .int lq])).length) Slot.unset).toArray = ls at hl ⊢
  have hl : lv_has ls 4 [(0, .ref x), (1, .int lq)] := hl
  refine lv_aload_n hx hb d_Md_candidates_0 rfl (lv_at hl 0 rfl) ?_
  refine lv_iconst (v := 0) hx hb d_Md_candidates_1 (by decide) ?_
  refine hx_put (ty := .int) (v := .int 0) hx hb htg iMd tMd tMd_ok nMd hown hK hI.1 hS (Or.inl rfl) rfl 0 (by decide) (htg _ (gw_mem (i := 998) (by decide +kernel) rfl)) (fun _ h9 => h9) rfl (by decide +kernel) rfl rfl (Nat.le_of_ble_eq_true rfl) d_Md_candidates_2 (fun H locs hat hz ho hS => ?_)
  replace hI : md_I D cs H x g (upd i 0 (0)) f := md_I.puti hI hsep hat ho rfl
  refine lv_aload_n hx hb d_Md_candidates_5 rfl (lv_at hl 0 rfl) ?_
  refine lv_ldc (v := 100000) hx hb hown (htg _ (gw_mem (i := 1115) (by decide +kernel) rfl)) d_Md_candidates_6 ?_
  refine h_callv (va_runV (As := [.int 100000]) (rest := []) ⟨hx, hb, hml, hown, htg⟩ (c_Md_join l D cs N0 H x g ((upd i 0 (0))) f 100000 hsep hI mg hmg hmg60 mo mt hone hoth) (cwV 1 htg (gw_V (gw_mem (i := 1136) (by decide +kernel) rfl) (gw_mem (i := 1138) (by decide +kernel) rfl) (gw_mem (i := 22) (by decide +kernel) rfl) (gw_mem (i := 38) (by decide +kernel) rfl) (gw_mem (i := 1139) (by decide +kernel) rfl)) rfl rfl rfl (by decide +kernel) ⟨Nat.le_of_ble_eq_true rfl, Nat.le_of_ble_eq_true rfl⟩) ⟨hPre.blind, hx_recv hK (ci := 0) rfl hI.1, hPre.at hB hS hsep.A⟩ rfl rfl hl.1 rfl (lv_room (Nat.le_of_ble_eq_true rfl)) d_Md_candidates_8 ⟨Nat.zero_le _, Nat.zero_le _⟩) hS (fun _ h => h) (fun  H locs hp hz hk hS => ?_)
  obtain ⟨G, gl, hI, hGgl, hCgl⟩ := hp
  refine lv_aload_n hx hb d_Md_candidates_11 rfl (lv_at hl 0 rfl) ?_
  refine lv_iconst (v := 0) hx hb d_Md_candidates_12 (by decide) ?_
  refine hx_put (ty := .int) (v := .int 0) hx hb htg iMd tMd tMd_ok nMd hown hK hI.1 hS (Or.inl rfl) rfl 22 (by decide) (htg _ (gw_mem (i := 1020) (by decide +kernel) rfl)) (fun _ h9 => h9) rfl (by decide +kernel) rfl rfl (Nat.le_of_ble_eq_true rfl) d_Md_candidates_13 (fun H locs hat hz ho hS => ?_)
  replace hI : md_I D cs H x g (upd (upd i 0 (0)) 4 (0)) (setA f 17 G) := md_I.puti hI hsep hat ho rfl
  refine lv_iconst (v := 0) hx hb d_Md_candidates_16 (by decide) ?_
  refine lv_istore_n (lv' := [(2, .int 0), (0, .ref x), (1, .int lq)]) hx hb d_Md_candidates_17 rfl hl (by decide) rfl (fun ls hl => ?_)
  have loop18 : ∀ (fuel : Nat) (F2 : Nat → Nat → Int32) (c9 : Nat) (a : Nat), n - a < fuel → (a ≤ n) → (∀ q, q ≠ 17 → q ≠ 18 → q ≠ 19 → q ≠ 21 → F2 q = f q) → (F2 17 = G) → (clI (canQ f ln mn mo mt mg n lq) (24 * a) (F2 18) (F2 19) c9) → ∀ (H : Heap) (locs : List Loc), md_I D cs H x g (upd (upd i 0 0) 4 (nI c9)) F2 → va_S (md_A x g) s.heap H locs → ∀ (ls : Array Slot), lv_has ls 4 [(0, .ref x), (1, .int lq), (2, .int (nI a))] → W p l e (headSpec w_Md_candidates ({ frames := 2, cells := 0, slots := 0, locals := 52 })).room s m ([.ref x, .int lq] : List Value).toArray below meth c H locs 0 0 (MQ below (hQi (fun r H' => ∃ (c9 : Nat) (F9 : Nat → Nat → Int32), md_I D cs H' x g (upd (upd i 0 0) 4 (nI c9)) F9 ∧ r = nI c9 ∧ clI (canQ f ln mn mo mt mg n lq) 576 (F9 18) (F9 19) c9 ∧ ∀ q, q ≠ 17 → q ≠ 18 → q ≠ 19 → q ≠ 21 → F9 q = f q) (md_A x g)) ([.ref x, .int lq] : List Value).toArray s 0 0 (md_A x g)) (F0 m 18 ls []) := by
    intro fuel18
    induction fuel18 with
    | zero => intro F2 c9 a hn; exact absurd hn (Nat.not_lt_zero _)
    | succ fuel18 ih18 =>
      intro F2 c9 a hn18 ha hF2 hG2 hL2 H locs hI hS ls hl
      refine lv_iload_n hx hb d_Md_candidates_18 rfl (lv_at hl 2 rfl) ?_
      refine lv_aload_n hx hb d_Md_candidates_19 rfl (lv_at hl 0 rfl) ?_
      refine hx_get (v := .int ((upd (upd i 0 0) 4 (nI c9)) 2)) hx hb htg iMd hown hK hI.1 rfl 3 (by decide) (htg _ (gw_mem (i := 1001) (by decide +kernel) rfl)) (fun _ h9 => h9) rfl d_Md_candidates_20 ?_
      refine lv_eqi (y := (nI n)) hn ?_
      refine lv_icmp_ge (x := (nI a)) (y := (nI n)) (tgt := 119) hx hb d_Md_candidates_23 (by decide) (fun c23 => ?_) (fun c23 => ?_)
      · skip
        replace c23 : n ≤ a := (nI_leI (a := n) (b := a) (by omega) (by omega)).mp c23
        refine lv_aload_n hx hb d_Md_candidates_119 rfl (lv_at hl 0 rfl) ?_
        refine hx_get (v := .int (nI c9)) hx hb htg iMd hown hK hI.1 rfl 22 (by decide) (htg _ (gw_mem (i := 1020) (by decide +kernel) rfl)) (fun _ h9 => h9) rfl d_Md_candidates_120 ?_
        exact W.iret (v := (nI c9)) hx hb hr (fun t ht hW => ⟨⟨(nI c9), H, rfl, ⟨c9, F2, hI, rfl, hL2.skip (by omega) (fun p h1 h2 => canQ_no (by omega)), hF2⟩, ht⟩, hS.F ht⟩) hS.2.2 d_Md_candidates_123
      · skip
        replace c23 : ¬ (n ≤ a) := fun z9 => c23 ((nI_leI (a := n) (b := a) (by omega) (by omega)).mpr z9)
        refine lv_iload_n hx hb d_Md_candidates_26 rfl (lv_at hl 2 rfl) ?_
        refine lv_iconst (v := 1) hx hb d_Md_candidates_27 (by decide) ?_
        refine lv_iadd (x := (nI a)) (y := 1) hx hb d_Md_candidates_28 ?_
        refine lv_eqi (y := (nI (a + 1))) (nI_add a 1) ?_
        refine lv_istore_n (lv' := [(3, .int (nI (a + 1))), (0, .ref x), (1, .int lq), (2, .int (nI a))]) hx hb d_Md_candidates_29 rfl hl (by decide) rfl (fun ls hl => ?_)
        have loop30 : ∀ (fuel : Nat) (F3 : Nat → Nat → Int32) (c8 : Nat) (b : Nat), n - b < fuel → (b ≤ n) → (a < b) → (∀ q, q ≠ 17 → q ≠ 18 → q ≠ 19 → q ≠ 21 → F3 q = f q) → (F3 17 = G) → (clI (canQ f ln mn mo mt mg n lq) (24 * a + b) (F3 18) (F3 19) c8) → ∀ (H : Heap) (locs : List Loc), md_I D cs H x g (upd (upd i 0 0) 4 (nI c8)) F3 → va_S (md_A x g) s.heap H locs → ∀ (ls : Array Slot), lv_has ls 4 [(0, .ref x), (1, .int lq), (2, .int (nI a)), (3, .int (nI b))] → W p l e (headSpec w_Md_candidates ({ frames := 2, cells := 0, slots := 0, locals := 52 })).room s m ([.ref x, .int lq] : List Value).toArray below meth c H locs 0 0 (MQ below (hQi (fun r H' => ∃ (c9 : Nat) (F9 : Nat → Nat → Int32), md_I D cs H' x g (upd (upd i 0 0) 4 (nI c9)) F9 ∧ r = nI c9 ∧ clI (canQ f ln mn mo mt mg n lq) 576 (F9 18) (F9 19) c9 ∧ ∀ q, q ≠ 17 → q ≠ 18 → q ≠ 19 → q ≠ 21 → F9 q = f q) (md_A x g)) ([.ref x, .int lq] : List Value).toArray s 0 0 (md_A x g)) (F0 m 30 ls []) := by
          intro fuel30
          induction fuel30 with
          | zero => intro F3 c8 b hn; exact absurd hn (Nat.not_lt_zero _)
          | succ fuel30 ih30 =>
            intro F3 c8 b hn30 hb9 hab hF3 hG3 hL3 H locs hI hS ls hl
            refine lv_iload_n hx hb d_Md_candidates_30 rfl (lv_at hl 3 rfl) ?_
            refine lv_aload_n hx hb d_Md_candidates_31 rfl (lv_at hl 0 rfl) ?_
            refine hx_get (v := .int ((upd (upd i 0 0) 4 (nI c8)) 2)) hx hb htg iMd hown hK hI.1 rfl 3 (by decide) (htg _ (gw_mem (i := 1001) (by decide +kernel) rfl)) (fun _ h9 => h9) rfl d_Md_candidates_32 ?_
            refine lv_eqi (y := (nI n)) hn ?_
            refine lv_icmp_ge (x := (nI b)) (y := (nI n)) (tgt := 113) hx hb d_Md_candidates_35 (by decide) (fun c35 => ?_) (fun c35 => ?_)
            · skip
              replace c35 : n ≤ b := (nI_leI (a := n) (b := b) (by omega) (by omega)).mp c35
              refine lv_iinc (v := (nI (a + 1))) (lv' := [(2, .int (nI (a + 1))), (0, .ref x), (1, .int lq), (3, .int (nI b))]) hx hb d_Md_candidates_113 hl (k := 2) rfl (nI_1 a) (by decide) rfl (fun ls hl => ?_)
              refine lv_goto (tgt := 18) hx hb d_Md_candidates_116 (by decide) ?_
              exact ih18  _ c8 (a + 1) (by omega) (by omega) hF3 hG3 (hL3.skip (by omega) (fun p h1 h2 => canQ_no (by omega))) _ _ hI hS ls (lv_sub hl [1, 2, 0] rfl)
            · skip
              replace c35 : ¬ (n ≤ b) := fun z9 => c35 ((nI_leI (a := n) (b := b) (by omega) (by omega)).mpr z9)
              have hga := (hGgl a (by omega)).2.1
              have hgb := (hGgl b (by omega)).2.1
              refine lv_aload_n hx hb d_Md_candidates_38 rfl (lv_at hl 0 rfl) ?_
              refine hx_get (v := .ref (g 9)) hx hb htg iMd hown hK hI.1 rfl 12 (by decide) (htg _ (gw_mem (i := 1010) (by decide +kernel) rfl)) (fun _ h9 => h9) rfl d_Md_candidates_39 ?_
              refine lv_bipush (v := 24) hx hb d_Md_candidates_42 (by decide) ?_
              refine lv_iload_n hx hb d_Md_candidates_44 rfl (lv_at hl 2 rfl) ?_
              refine lv_imul (x := 24) (y := (nI a)) hx hb d_Md_candidates_45 ?_
              refine lv_eqi (y := (nI (24 * a))) (pk_mul 24 a) ?_
              refine lv_iload_n hx hb d_Md_candidates_46 rfl (lv_at hl 3 rfl) ?_
              refine lv_iadd (x := (nI (24 * a))) (y := (nI b)) hx hb d_Md_candidates_47 ?_
              refine lv_eqi (y := (nI (24 * a + b))) (nI_add (24 * a) b) ?_
              refine hx_iald hx hb hK 0 (hI.2 9 (by decide)) rfl (show vp_in (nI (24 * a + b)) 576 from vp_in_nI (n := 24 * a + b) (by omega) (by decide)) d_Md_candidates_48 ?_
              refine lv_eqi (y := (F3 9 (24 * a + b))) (show F3 9 (nI (24 * a + b)).toNatClampNeg = _ by rw [nI_clamp (by omega)]) ?_
              refine lv_eqi (y := (f 9 (24 * a + b))) (by rw [hF3 9 (by decide) (by decide) (by decide) (by decide)]) ?_
              refine lv_if_ne (x := (f 9 (24 * a + b))) (tgt := 107) hx hb d_Md_candidates_49 (by decide) (fun c49 => ?_) (fun c49 => ?_)
              · skip
                refine lv_iinc (v := (nI (b + 1))) (lv' := [(3, .int (nI (b + 1))), (0, .ref x), (1, .int lq), (2, .int (nI a))]) hx hb d_Md_candidates_107 hl (k := 3) rfl (nI_1 b) (by decide) rfl (fun ls hl => ?_)
                refine lv_goto (tgt := 30) hx hb d_Md_candidates_110 (by decide) ?_
                exact ih30  _ c8 (b + 1) (by omega) (by omega) (by omega) hF3 hG3 (hL3.miss (by rw [canQ_at hab (by omega) hn24, decide_eq_false c49]; simp)) _ _ hI hS ls (lv_sub hl [1, 2, 3, 0] rfl)
              · skip
                refine lv_aload_n hx hb d_Md_candidates_52 rfl (lv_at hl 0 rfl) ?_
                refine hx_get (v := .ref (g 17)) hx hb htg iMd hown hK hI.1 rfl 21 (by decide) (htg _ (gw_mem (i := 1019) (by decide +kernel) rfl)) (fun _ h9 => h9) rfl d_Md_candidates_53 ?_
                refine lv_iload_n hx hb d_Md_candidates_56 rfl (lv_at hl 2 rfl) ?_
                refine hx_iald hx hb hK 0 (hI.2 17 (by decide)) rfl (show vp_in (nI a) 24 from vp_in_nI (n := a) (by omega) (by decide)) d_Md_candidates_57 ?_
                refine lv_eqi (y := (F3 17 a)) (show F3 17 (nI a).toNatClampNeg = _ by rw [nI_clamp (by omega)]) ?_
                refine lv_eqi (y := (nI (gl a))) (by rw [hG3]; exact (hGgl a (by omega)).1) ?_
                refine lv_aload_n hx hb d_Md_candidates_58 rfl (lv_at hl 0 rfl) ?_
                refine hx_get (v := .ref (g 17)) hx hb htg iMd hown hK hI.1 rfl 21 (by decide) (htg _ (gw_mem (i := 1019) (by decide +kernel) rfl)) (fun _ h9 => h9) rfl d_Md_candidates_59 ?_
                refine lv_iload_n hx hb d_Md_candidates_62 rfl (lv_at hl 3 rfl) ?_
                refine hx_iald hx hb hK 0 (hI.2 17 (by decide)) rfl (show vp_in (nI b) 24 from vp_in_nI (n := b) (by omega) (by decide)) d_Md_candidates_63 ?_
                refine lv_eqi (y := (F3 17 b)) (show F3 17 (nI b).toNatClampNeg = _ by rw [nI_clamp (by omega)]) ?_
                refine lv_eqi (y := (nI (gl b))) (by rw [hG3]; exact (hGgl b (by omega)).1) ?_
                refine lv_icmp_eq (x := (nI (gl a))) (y := (nI (gl b))) (tgt := 107) hx hb d_Md_candidates_64 (by decide) (fun c64 => ?_) (fun c64 => ?_)
                · skip
                  replace c64 : (gl a) = (gl b) := (nI_eq (a := (gl a)) (b := (gl b)) (by omega) (by omega)).mp c64
                  refine lv_iinc (v := (nI (b + 1))) (lv' := [(3, .int (nI (b + 1))), (0, .ref x), (1, .int lq), (2, .int (nI a))]) hx hb d_Md_candidates_107 hl (k := 3) rfl (nI_1 b) (by decide) rfl (fun ls hl => ?_)
                  refine lv_goto (tgt := 30) hx hb d_Md_candidates_110 (by decide) ?_
                  exact ih30  _ c8 (b + 1) (by omega) (by omega) (by omega) hF3 hG3 (hL3.miss (by rw [canQ_at hab (by omega) hn24, decide_eq_true c49, oneB_t hGgl hCgl (by omega) (by omega) c64]; simp)) _ _ hI hS ls (lv_sub hl [1, 2, 3, 0] rfl)
                · skip
                  replace c64 : ¬ ((gl a) = (gl b)) := fun z9 => c64 ((nI_eq (a := (gl a)) (b := (gl b)) (by omega) (by omega)).mpr z9)
                  refine lv_aload_n hx hb d_Md_candidates_67 rfl (lv_at hl 0 rfl) ?_
                  refine lv_iload_n hx hb d_Md_candidates_68 rfl (lv_at hl 2 rfl) ?_
                  refine lv_iload_n hx hb d_Md_candidates_69 rfl (lv_at hl 3 rfl) ?_
                  refine h_calli (va_runV (As := [.int (nI a), .int (nI b)]) (rest := []) ⟨hx, hb, hml, hown, htg⟩ (c_Md_likeness l D cs N0 H x g ((upd (upd i 0 0) 4 (nI c8))) F3 a b hsep hI mn ln ((agr.of4 hF3).wf hV) (by omega) (by omega)) (cwV 2 htg (gw_V (gw_mem (i := 1124) (by decide +kernel) rfl) (gw_mem (i := 1126) (by decide +kernel) rfl) (gw_mem (i := 20) (by decide +kernel) rfl) (gw_mem (i := 38) (by decide +kernel) rfl) (gw_mem (i := 1127) (by decide +kernel) rfl)) rfl rfl rfl (by decide +kernel) ⟨Nat.le_of_ble_eq_true rfl, Nat.le_of_ble_eq_true rfl⟩) ⟨hPre.blind, hx_recv hK (ci := 0) rfl hI.1, hPre.at hB hS hsep.A⟩ rfl rfl hl.1 rfl (lv_room (Nat.le_of_ble_eq_true rfl)) d_Md_candidates_70 ⟨Nat.zero_le _, Nat.zero_le _⟩) hS (fun _ h => h) (fun r70 H locs hp hz hk hS => ?_)
                  obtain ⟨R, hI, er70⟩ := hp
                  refine lv_eqi (y := (likeV f ln mn a b)) (er70.trans (agr.of4 hF3).like) ?_
                  refine lv_iload_n hx hb d_Md_candidates_73 rfl (lv_at hl 1 rfl) ?_
                  refine lv_icmp_lt (x := (likeV f ln mn a b)) (y := lq) (tgt := 107) hx hb d_Md_candidates_74 (by decide) (fun c74 => ?_) (fun c74 => ?_)
                  · skip
                    refine lv_iinc (v := (nI (b + 1))) (lv' := [(3, .int (nI (b + 1))), (0, .ref x), (1, .int lq), (2, .int (nI a))]) hx hb d_Md_candidates_107 hl (k := 3) rfl (nI_1 b) (by decide) rfl (fun ls hl => ?_)
                    refine lv_goto (tgt := 30) hx hb d_Md_candidates_110 (by decide) ?_
                    exact ih30  _ c8 (b + 1) (by omega) (by omega) (by omega) (fun q h1 h2 h3 h4 => (setA_ne h4).trans (hF3 q h1 h2 h3 h4)) ((setA_ne (by decide)).trans hG3) (by rw [setA_ne (by decide), setA_ne (by decide)]; exact hL3.miss (by rw [canQ_at hab (by omega) hn24, decide_eq_true c49, oneB_f hGgl hCgl (by omega) (by omega) c64, decide_eq_true c74]; simp)) _ _ hI hS ls (lv_sub hl [1, 2, 3, 0] rfl)
                  · skip
                    have hQ9 : (canQ f ln mn mo mt mg n lq) (24 * a + b) = true := by rw [canQ_at hab (by omega) hn24, decide_eq_true c49, oneB_f hGgl hCgl (by omega) (by omega) c64, decide_eq_false c74]; rfl
                    have hc276 := hL3.lt hQ9 (by omega) canQ_tri
                    refine lv_aload_n hx hb d_Md_candidates_77 rfl (lv_at hl 0 rfl) ?_
                    refine hx_get (v := .ref (g 18)) hx hb htg iMd hown hK hI.1 rfl 23 (by decide) (htg _ (gw_mem (i := 1021) (by decide +kernel) rfl)) (fun _ h9 => h9) rfl d_Md_candidates_78 ?_
                    refine lv_aload_n hx hb d_Md_candidates_81 rfl (lv_at hl 0 rfl) ?_
                    refine hx_get (v := .int (nI c8)) hx hb htg iMd hown hK hI.1 rfl 22 (by decide) (htg _ (gw_mem (i := 1020) (by decide +kernel) rfl)) (fun _ h9 => h9) rfl d_Md_candidates_82 ?_
                    refine lv_iload_n hx hb d_Md_candidates_85 rfl (lv_at hl 2 rfl) ?_
                    refine hx_iast hx hb hK hS (Or.inr ⟨18, by decide, rfl⟩) 0 (hI.2 18 (by decide)) rfl (show vp_in (nI c8) 276 from vp_in_nI (n := c8) (by omega) (by decide)) d_Md_candidates_86 (fun H locs hat hz ho hS => ?_)
                    replace hI : md_I D cs H x g (upd (upd i 0 0) 4 (nI c8)) (updA (setA F3 21 R) 18 c8 ((nI a))) := md_I.puta hI hsep (by decide) (by rw [show ((nI c8) : Int32).toNatClampNeg = c8 from nI_clamp (n := c8) (by omega)] at hat; exact hat) ho
                    refine lv_aload_n hx hb d_Md_candidates_87 rfl (lv_at hl 0 rfl) ?_
                    refine hx_get (v := .ref (g 19)) hx hb htg iMd hown hK hI.1 rfl 24 (by decide) (htg _ (gw_mem (i := 1022) (by decide +kernel) rfl)) (fun _ h9 => h9) rfl d_Md_candidates_88 ?_
                    refine lv_aload_n hx hb d_Md_candidates_91 rfl (lv_at hl 0 rfl) ?_
                    refine hx_get (v := .int (nI c8)) hx hb htg iMd hown hK hI.1 rfl 22 (by decide) (htg _ (gw_mem (i := 1020) (by decide +kernel) rfl)) (fun _ h9 => h9) rfl d_Md_candidates_92 ?_
                    refine lv_iload_n hx hb d_Md_candidates_95 rfl (lv_at hl 3 rfl) ?_
                    refine hx_iast hx hb hK hS (Or.inr ⟨19, by decide, rfl⟩) 0 (hI.2 19 (by decide)) rfl (show vp_in (nI c8) 276 from vp_in_nI (n := c8) (by omega) (by decide)) d_Md_candidates_96 (fun H locs hat hz ho hS => ?_)
                    replace hI : md_I D cs H x g (upd (upd i 0 0) 4 (nI c8)) (updA (updA (setA F3 21 R) 18 c8 ((nI a))) 19 c8 ((nI b))) := md_I.puta hI hsep (by decide) (by rw [show ((nI c8) : Int32).toNatClampNeg = c8 from nI_clamp (n := c8) (by omega)] at hat; exact hat) ho
                    refine lv_aload_n hx hb d_Md_candidates_97 rfl (lv_at hl 0 rfl) ?_
                    refine lv_dup hx hb d_Md_candidates_98 rfl ?_
                    refine hx_get (v := .int (nI c8)) hx hb htg iMd hown hK hI.1 rfl 22 (by decide) (htg _ (gw_mem (i := 1020) (by decide +kernel) rfl)) (fun _ h9 => h9) rfl d_Md_candidates_99 ?_
                    refine lv_iconst (v := 1) hx hb d_Md_candidates_102 (by decide) ?_
                    refine lv_iadd (x := (nI c8)) (y := 1) hx hb d_Md_candidates_103 ?_
                    refine lv_eqi (y := (nI (c8 + 1))) (nI_add c8 1) ?_
                    refine hx_put (ty := .int) (v := .int (nI (c8 + 1))) hx hb htg iMd tMd tMd_ok nMd hown hK hI.1 hS (Or.inl rfl) rfl 22 (by decide) (htg _ (gw_mem (i := 1020) (by decide +kernel) rfl)) (fun _ h9 => h9) rfl (by decide +kernel) rfl rfl (Nat.le_of_ble_eq_true rfl) d_Md_candidates_104 (fun H locs hat hz ho hS => ?_)
                    replace hI : md_I D cs H x g (upd (upd (upd i 0 0) 4 (nI c8)) 4 ((nI (c8 + 1)))) (updA (updA (setA F3 21 R) 18 c8 ((nI a))) 19 c8 ((nI b))) := md_I.puti hI hsep hat ho rfl
                    refine lv_iinc (v := (nI (b + 1))) (lv' := [(3, .int (nI (b + 1))), (0, .ref x), (1, .int lq), (2, .int (nI a))]) hx hb d_Md_candidates_107 hl (k := 3) rfl (nI_1 b) (by decide) rfl (fun ls hl => ?_)
                    refine lv_goto (tgt := 30) hx hb d_Md_candidates_110 (by decide) ?_
                    rw [upd_upd] at hI
                    obtain ⟨F4, eF4⟩ : ∃ z9 : Nat → Nat → Int32, z9 = (updA (updA (setA F3 21 R) 18 c8 ((nI a))) 19 c8 ((nI b))) := ⟨_, rfl⟩
                    rw [← eF4] at hI
                    have e18 : F4 18 = upd (F3 18) c8 (nI a) := by rw [eF4, updA_ne (by decide), updA_self, setA_ne (by decide)]
                    have e19 : F4 19 = upd (F3 19) c8 (nI b) := by rw [eF4, updA_self, updA_ne (by decide), setA_ne (by decide)]
                    exact ih30  F4 (c8 + 1) (b + 1) (by omega) (by omega) (by omega) (fun q h1 h2 h3 h4 => by rw [eF4, updA_ne h3, updA_ne h2, setA_ne h4]; exact hF3 q h1 h2 h3 h4) (by rw [eF4, updA_ne (by decide), updA_ne (by decide), setA_ne (by decide)]; exact hG3) (by rw [e18, e19]; exact hL3.hit hQ9 (by omega)) _ _ hI hS ls (lv_sub hl [1, 2, 3, 0] rfl)
        exact loop30 ((n - (a + 1)) + 1) _ c9 (a + 1) (Nat.lt_succ_self _) (by omega) (by omega) hF2 hG2 (hL2.skip (by omega) (fun p h1 h2 => canQ_no (by omega))) _ _ hI hS ls (lv_sub hl [1, 2, 3, 0] rfl)
  exact loop18 ((n - 0) + 1) _ 0 0 (Nat.lt_succ_self _) (Nat.zero_le _) (fun q h1 h2 h3 h4 => setA_ne h1) (setA_self _ _ _) (⟨rfl, fun k p hk => by simp [selL] at hk⟩) _ _ hI hS ls (lv_sub hl [1, 2, 0] rfl)
end
section
def flI (Q : Nat → Bool) (m : Nat) (A : Nat → Int32) (c : Nat) : Prop := c = (selL Q m).length ∧ ∀ k p, (selL Q m)[k]? = some p → A k = nI p
theorem flI.miss {Q : Nat → Bool} {m c : Nat} {A : Nat → Int32} (h : flI Q m A c) (hq : Q m = false) : flI Q (m + 1) A c := by
  unfold flI; rw [sel_miss hq]; exact h
theorem flI.hit {Q : Nat → Bool} {m c : Nat} {A : Nat → Int32} (h : flI Q m A c) (hq : Q m = true) : flI Q (m + 1) (upd A c (nI m)) (c + 1) := by
  unfold flI
  rw [sel_hit hq]
  refine ⟨by rw [List.length_append, ← h.1]; rfl, fun k p hk => ?_⟩
  by_cases e : k < (selL Q m).length
  · rw [List.getElem?_append_left e] at hk
    rw [upd_ne (by rw [h.1]; omega)]
    exact h.2 k p hk
  · rw [List.getElem?_append_right (by omega)] at hk
    have e2 : k - (selL Q m).length < 1 := (List.getElem?_eq_some_iff.mp hk).1
    have e3 : k = c := by rw [h.1]; omega
    rw [show k - (selL Q m).length = 0 by omega] at hk
    cases hk
    subst e3
    rw [upd_self]
theorem flI.le {Q : Nat → Bool} {m c : Nat} {A : Nat → Int32} (h : flI Q m A c) : c ≤ m := by
  rw [h.1]
  have := List.length_filter_le Q (List.range m)
  rw [List.length_range] at this
  exact this
noncomputable def fdP (f : Nat → Nat → Int32) (mn mo mt : Nat → Nat) (mg pn : Nat) (dy : Int32) (m : Nat) : Nat → Bool := fun k => oneB mo mt (holdB f dy) mg k m && anyTo (hasP f pn k dy) (mn k)
noncomputable def fdQ (f : Nat → Nat → Int32) (mn mo mt : Nat → Nat) (mg pn n : Nat) (dy : Int32) : Nat → Bool := fun m => anyTo (fdP f mn mo mt mg pn dy m) n
theorem hasP_congr {F f : Nat → Nat → Int32} {pn a : Nat} {dy : Int32} (h : ∀ q, q ≠ 17 → q ≠ 20 → F q = f q) : hasP F pn a dy = hasP f pn a dy := by
  funext j
  unfold hasP isPadB
  have e : ∀ v, padP F v = padP f v := fun v => by funext k; unfold padP; rw [h 3 (by decide) (by decide), h 0 (by decide) (by decide)]
  rw [h 5 (by decide) (by decide), h 6 (by decide) (by decide), h 2 (by decide) (by decide), e]
def y_Md_find : MethodName := ⟨"NameMergesModel", "find", "(I)I"⟩
abbrev w_Md_find : List Cond := Cond.code y_Md_find prog_7_method_29_code 5 (Option.some Jvm.ClassFile.FieldType.int) :: gw
theorem d_Md_find_0 : decode prog_7_method_29_code 0 = .ok (.aload_n 0, 1) := by decide +kernel
theorem d_Md_find_1 : decode prog_7_method_29_code 1 = .ok (.iload_n 1, 1) := by decide +kernel
theorem d_Md_find_2 : decode prog_7_method_29_code 2 = .ok (.invokestatic 96, 3) := by decide +kernel
theorem d_Md_find_5 : decode prog_7_method_29_code 5 = .ok (.iconst 1, 1) := by decide +kernel
theorem d_Md_find_6 : decode prog_7_method_29_code 6 = .ok (.iconst 1, 1) := by decide +kernel
theorem d_Md_find_7 : decode prog_7_method_29_code 7 = .ok (.invokevirtual 88, 3) := by decide +kernel
theorem d_Md_find_10 : decode prog_7_method_29_code 10 = .ok (.ifCond .ne 5, 3) := by decide +kernel
theorem d_Md_find_13 : decode prog_7_method_29_code 13 = .ok (.iconst 0, 1) := by decide +kernel
theorem d_Md_find_14 : decode prog_7_method_29_code 14 = .ok (.ireturn, 1) := by decide +kernel
theorem d_Md_find_15 : decode prog_7_method_29_code 15 = .ok (.aload_n 0, 1) := by decide +kernel
theorem d_Md_find_16 : decode prog_7_method_29_code 16 = .ok (.iload_n 1, 1) := by decide +kernel
theorem d_Md_find_17 : decode prog_7_method_29_code 17 = .ok (.invokevirtual 109, 3) := by decide +kernel
theorem d_Md_find_20 : decode prog_7_method_29_code 20 = .ok (.aload_n 0, 1) := by decide +kernel
theorem d_Md_find_21 : decode prog_7_method_29_code 21 = .ok (.iconst 0, 1) := by decide +kernel
theorem d_Md_find_22 : decode prog_7_method_29_code 22 = .ok (.putfield 130, 3) := by decide +kernel
theorem d_Md_find_25 : decode prog_7_method_29_code 25 = .ok (.iconst 0, 1) := by decide +kernel
theorem d_Md_find_26 : decode prog_7_method_29_code 26 = .ok (.istore_n 2, 1) := by decide +kernel
theorem d_Md_find_27 : decode prog_7_method_29_code 27 = .ok (.iload_n 2, 1) := by decide +kernel
theorem d_Md_find_28 : decode prog_7_method_29_code 28 = .ok (.aload_n 0, 1) := by decide +kernel
theorem d_Md_find_29 : decode prog_7_method_29_code 29 = .ok (.getfield 81, 3) := by decide +kernel
theorem d_Md_find_32 : decode prog_7_method_29_code 32 = .ok (.if_icmp .ge 89, 3) := by decide +kernel
theorem d_Md_find_35 : decode prog_7_method_29_code 35 = .ok (.iconst 0, 1) := by decide +kernel
theorem d_Md_find_36 : decode prog_7_method_29_code 36 = .ok (.istore_n 3, 1) := by decide +kernel
theorem d_Md_find_37 : decode prog_7_method_29_code 37 = .ok (.iconst 0, 1) := by decide +kernel
theorem d_Md_find_38 : decode prog_7_method_29_code 38 = .ok (.istore 4, 2) := by decide +kernel
theorem d_Md_find_40 : decode prog_7_method_29_code 40 = .ok (.iload 4, 2) := by decide +kernel
theorem d_Md_find_42 : decode prog_7_method_29_code 42 = .ok (.aload_n 0, 1) := by decide +kernel
theorem d_Md_find_43 : decode prog_7_method_29_code 43 = .ok (.getfield 81, 3) := by decide +kernel
theorem d_Md_find_46 : decode prog_7_method_29_code 46 = .ok (.if_icmp .ge 45, 3) := by decide +kernel
theorem d_Md_find_49 : decode prog_7_method_29_code 49 = .ok (.iload_n 3, 1) := by decide +kernel
theorem d_Md_find_50 : decode prog_7_method_29_code 50 = .ok (.ifCond .ne 29, 3) := by decide +kernel
theorem d_Md_find_53 : decode prog_7_method_29_code 53 = .ok (.aload_n 0, 1) := by decide +kernel
theorem d_Md_find_54 : decode prog_7_method_29_code 54 = .ok (.getfield 62, 3) := by decide +kernel
theorem d_Md_find_57 : decode prog_7_method_29_code 57 = .ok (.iload 4, 2) := by decide +kernel
theorem d_Md_find_59 : decode prog_7_method_29_code 59 = .ok (.iaload, 1) := by decide +kernel
theorem d_Md_find_60 : decode prog_7_method_29_code 60 = .ok (.aload_n 0, 1) := by decide +kernel
theorem d_Md_find_61 : decode prog_7_method_29_code 61 = .ok (.getfield 62, 3) := by decide +kernel
theorem d_Md_find_64 : decode prog_7_method_29_code 64 = .ok (.iload_n 2, 1) := by decide +kernel
theorem d_Md_find_65 : decode prog_7_method_29_code 65 = .ok (.iaload, 1) := by decide +kernel
theorem d_Md_find_66 : decode prog_7_method_29_code 66 = .ok (.if_icmp .ne 17, 3) := by decide +kernel
theorem d_Md_find_69 : decode prog_7_method_29_code 69 = .ok (.aload_n 0, 1) := by decide +kernel
theorem d_Md_find_70 : decode prog_7_method_29_code 70 = .ok (.iload 4, 2) := by decide +kernel
theorem d_Md_find_72 : decode prog_7_method_29_code 72 = .ok (.iload_n 1, 1) := by decide +kernel
theorem d_Md_find_73 : decode prog_7_method_29_code 73 = .ok (.invokevirtual 133, 3) := by decide +kernel
theorem d_Md_find_76 : decode prog_7_method_29_code 76 = .ok (.ifCond .eq 7, 3) := by decide +kernel
theorem d_Md_find_79 : decode prog_7_method_29_code 79 = .ok (.iconst 1, 1) := by decide +kernel
theorem d_Md_find_80 : decode prog_7_method_29_code 80 = .ok (.goto 4, 3) := by decide +kernel
theorem d_Md_find_83 : decode prog_7_method_29_code 83 = .ok (.iconst 0, 1) := by decide +kernel
theorem d_Md_find_84 : decode prog_7_method_29_code 84 = .ok (.istore_n 3, 1) := by decide +kernel
theorem d_Md_find_85 : decode prog_7_method_29_code 85 = .ok (.iinc 4 1, 3) := by decide +kernel
theorem d_Md_find_88 : decode prog_7_method_29_code 88 = .ok (.goto (-48), 3) := by decide +kernel
theorem d_Md_find_91 : decode prog_7_method_29_code 91 = .ok (.iload_n 3, 1) := by decide +kernel
theorem d_Md_find_92 : decode prog_7_method_29_code 92 = .ok (.ifCond .eq 23, 3) := by decide +kernel
theorem d_Md_find_95 : decode prog_7_method_29_code 95 = .ok (.aload_n 0, 1) := by decide +kernel
theorem d_Md_find_96 : decode prog_7_method_29_code 96 = .ok (.getfield 71, 3) := by decide +kernel
theorem d_Md_find_99 : decode prog_7_method_29_code 99 = .ok (.aload_n 0, 1) := by decide +kernel
theorem d_Md_find_100 : decode prog_7_method_29_code 100 = .ok (.getfield 130, 3) := by decide +kernel
theorem d_Md_find_103 : decode prog_7_method_29_code 103 = .ok (.iload_n 2, 1) := by decide +kernel
theorem d_Md_find_104 : decode prog_7_method_29_code 104 = .ok (.iastore, 1) := by decide +kernel
theorem d_Md_find_105 : decode prog_7_method_29_code 105 = .ok (.aload_n 0, 1) := by decide +kernel
theorem d_Md_find_106 : decode prog_7_method_29_code 106 = .ok (.dup, 1) := by decide +kernel
theorem d_Md_find_107 : decode prog_7_method_29_code 107 = .ok (.getfield 130, 3) := by decide +kernel
theorem d_Md_find_110 : decode prog_7_method_29_code 110 = .ok (.iconst 1, 1) := by decide +kernel
theorem d_Md_find_111 : decode prog_7_method_29_code 111 = .ok (.iadd, 1) := by decide +kernel
theorem d_Md_find_112 : decode prog_7_method_29_code 112 = .ok (.putfield 130, 3) := by decide +kernel
theorem d_Md_find_115 : decode prog_7_method_29_code 115 = .ok (.iinc 2 1, 3) := by decide +kernel
theorem d_Md_find_118 : decode prog_7_method_29_code 118 = .ok (.goto (-91), 3) := by decide +kernel
theorem d_Md_find_121 : decode prog_7_method_29_code 121 = .ok (.aload_n 0, 1) := by decide +kernel
theorem d_Md_find_122 : decode prog_7_method_29_code 122 = .ok (.getfield 130, 3) := by decide +kernel
theorem d_Md_find_125 : decode prog_7_method_29_code 125 = .ok (.ireturn, 1) := by decide +kernel
set_option maxHeartbeats 4000000 in
set_option maxRecDepth 100000 in
theorem c_Md_find (l : Launch) (D : va_G) (cs : Nat → ClassId) (N0 : Nat) (H : Heap) (x : Nat) (g : Nat → Nat) (i : Nat → Int32) (f : Nat → Nat → Int32) (dy : Int32) (hsep : md_sep N0 x g) (hI : md_I D cs H x g i f) (n : Nat) (hn : i 2 = nI n) (hn24 : n ≤ 24) (pn : Nat) (hpn : i 1 = nI pn) (hp12 : pn ≤ 12) (mn : Nat → Nat) (hm : ∀ a, a < 24 → f 1 a = nI (mn a) ∧ mn a ≤ 4) (mg : Nat) (hmg : i 3 = nI mg) (hmg60 : mg ≤ 60) (mo mt : Nat → Nat) (hone : ∀ k, k < mg → f 13 k = nI (mo k) ∧ mo k < 24) (hoth : ∀ k, k < mg → f 14 k = nI (mt k) ∧ mt k < 24) : Met l y_Md_find w_Md_find ({ frames := 2, cells := 0, slots := 0, locals := 47 }) (hPre D cs N0 [.ref x, .int dy] H) (hQi (fun r H' => if goB (isD dy) true true = true then (∃ (c9 : Nat) (F9 : Nat → Nat → Int32), md_I D cs H' x g (upd (upd i 0 (goV (isD dy) true true)) 5 (nI c9)) F9 ∧ r = nI c9 ∧ flI (fdQ f mn mo mt mg pn n dy) n (F9 20) c9 ∧ ∀ q, q ≠ 17 → q ≠ 20 → F9 q = f q) else (md_I D cs H' x g (upd i 0 (goV (isD dy) true true)) f ∧ r = 0)) (md_A x g)) 0 0 (md_A x g) := by
  refine Met.ofW (cc := prog_7_method_29_code) (maxL := 5) (ret := (Option.some Jvm.ClassFile.FieldType.int)) (by decide) rfl ?_
  intro p e s m args below meth c s₁ B hml hv
  obtain ⟨rfl, rfl, hB⟩ := hv
  have hx := B.exec
  have hb := B.bytes
  have hr := B.returns
  have hts := atoms_spec (ws := w_Md_find) B.pre
  have htg : ∀ w ∈ gw, w.before _ s = true := fun w h => hts w (List.mem_cons_of_mem _ h)
  have hown : s.vm.findClass "NameMergesModel" = some m.cls := findClass_of_methodNamed B.named
  have hlocks := B.notSynchronized
  have hK := hB.1
  have hS : va_S (md_A x g) s.heap s.heap [] := va_S.rf
  obtain ⟨H, hH⟩ : ∃ z : Heap, z = s.heap := ⟨_, rfl⟩
  rw [← hH] at hI
  have hS : va_S (md_A x g) s.heap H [] := by rw [hH]; exact va_S.rf
  have hl := lv_entry ([.ref x, .int dy]) (n := 5) (Nat.le_of_ble_eq_true rfl)
  rw [lg_entry_eq, ← hH]
  generalize (lg_sl ([.ref x, .int dy]) ++ List.replicate (5 - (lg_sl ([.ref x, .int dy])).length) Slot.unset).toArray = ls at hl ⊢
  have hl : lv_has ls 5 [(0, .ref x), (1, .int dy)] := hl
  refine lv_aload_n hx hb d_Md_find_0 rfl (lv_at hl 0 rfl) ?_
  refine lv_iload_n hx hb d_Md_find_1 rfl (lv_at hl 1 rfl) ?_
  refine h_calli (va_runS (As := [.int dy]) (rest := [.ref x]) ⟨hx, hb, hml, hown, htg⟩ (c_Md_isDay l D cs N0 H x g i f dy hsep hI) (cwS 1 htg (gw_S (gw_mem (i := 1112) (by decide +kernel) rfl) (gw_mem (i := 1113) (by decide +kernel) rfl) (gw_mem (i := 38) (by decide +kernel) rfl) (gw_mem (i := 1114) (by decide +kernel) rfl)) rfl rfl rfl (by decide +kernel) ⟨Nat.le_of_ble_eq_true rfl, Nat.le_of_ble_eq_true rfl⟩) ⟨hPre.blind, hPre.at hB hS hsep.A⟩ rfl rfl hl.1 rfl (lv_room (Nat.le_of_ble_eq_true rfl)) d_Md_find_2 ⟨Nat.zero_le _, Nat.zero_le _⟩) hS (fun _ h => h) (fun r2 H locs hp hz hk hS => ?_)
  obtain ⟨hI, er2⟩ := hp
  refine lv_eqi (y := (bI (isD dy))) er2 ?_
  refine lv_iconst (v := 1) hx hb d_Md_find_5 (by decide) ?_
  refine lv_iconst (v := 1) hx hb d_Md_find_6 (by decide) ?_
  refine h_calli (va_runV (As := [.int (bI (isD dy)), .int 1, .int 1]) (rest := []) ⟨hx, hb, hml, hown, htg⟩ (c_Md_goes l D cs N0 H x g i f (isD dy) true true hsep hI) (cwV 3 htg (gw_V (gw_mem (i := 1092) (by decide +kernel) rfl) (gw_mem (i := 1094) (by decide +kernel) rfl) (gw_mem (i := 18) (by decide +kernel) rfl) (gw_mem (i := 38) (by decide +kernel) rfl) (gw_mem (i := 1095) (by decide +kernel) rfl)) rfl rfl rfl (by decide +kernel) ⟨Nat.le_of_ble_eq_true rfl, Nat.le_of_ble_eq_true rfl⟩) ⟨hPre.blind, hx_recv hK (ci := 0) rfl hI.1, hPre.at hB hS hsep.A⟩ rfl rfl hl.1 rfl (lv_room (Nat.le_of_ble_eq_true rfl)) d_Md_find_7 ⟨Nat.zero_le _, Nat.zero_le _⟩) hS (fun _ h => h) (fun r7 H locs hp hz hk hS => ?_)
  obtain ⟨hI, er7⟩ := hp
  refine lv_eqi (y := (bI (goB (isD dy) true true))) er7 ?_
  refine lv_if_ne (x := (bI (goB (isD dy) true true))) (tgt := 15) hx hb d_Md_find_10 (by decide) (fun c10 => ?_) (fun c10 => ?_)
  · skip
    replace c10 : (goB (isD dy) true true) = true := bI_1 c10
    refine lv_aload_n hx hb d_Md_find_15 rfl (lv_at hl 0 rfl) ?_
    refine lv_iload_n hx hb d_Md_find_16 rfl (lv_at hl 1 rfl) ?_
    refine h_callv (va_runV (As := [.int dy]) (rest := []) ⟨hx, hb, hml, hown, htg⟩ (c_Md_join l D cs N0 H x g ((upd i 0 (goV (isD dy) true true))) f dy hsep hI mg hmg hmg60 mo mt hone hoth) (cwV 1 htg (gw_V (gw_mem (i := 1136) (by decide +kernel) rfl) (gw_mem (i := 1138) (by decide +kernel) rfl) (gw_mem (i := 22) (by decide +kernel) rfl) (gw_mem (i := 38) (by decide +kernel) rfl) (gw_mem (i := 1139) (by decide +kernel) rfl)) rfl rfl rfl (by decide +kernel) ⟨Nat.le_of_ble_eq_true rfl, Nat.le_of_ble_eq_true rfl⟩) ⟨hPre.blind, hx_recv hK (ci := 0) rfl hI.1, hPre.at hB hS hsep.A⟩ rfl rfl hl.1 rfl (lv_room (Nat.le_of_ble_eq_true rfl)) d_Md_find_17 ⟨Nat.zero_le _, Nat.zero_le _⟩) hS (fun _ h => h) (fun  H locs hp hz hk hS => ?_)
    obtain ⟨G, gl, hI, hGgl, hCgl⟩ := hp
    refine lv_aload_n hx hb d_Md_find_20 rfl (lv_at hl 0 rfl) ?_
    refine lv_iconst (v := 0) hx hb d_Md_find_21 (by decide) ?_
    refine hx_put (ty := .int) (v := .int 0) hx hb htg iMd tMd tMd_ok nMd hown hK hI.1 hS (Or.inl rfl) rfl 25 (by decide) (htg _ (gw_mem (i := 1023) (by decide +kernel) rfl)) (fun _ h9 => h9) rfl (by decide +kernel) rfl rfl (Nat.le_of_ble_eq_true rfl) d_Md_find_22 (fun H locs hat hz ho hS => ?_)
    replace hI : md_I D cs H x g (upd (upd i 0 (goV (isD dy) true true)) 5 (0)) (setA f 17 G) := md_I.puti hI hsep hat ho rfl
    refine lv_iconst (v := 0) hx hb d_Md_find_25 (by decide) ?_
    refine lv_istore_n (lv' := [(2, .int 0), (0, .ref x), (1, .int dy)]) hx hb d_Md_find_26 rfl hl (by decide) rfl (fun ls hl => ?_)
    have loop27 : ∀ (fuel : Nat) (F2 : Nat → Nat → Int32) (c9 : Nat) (m9 : Nat), n - m9 < fuel → (m9 ≤ n) → (∀ q, q ≠ 17 → q ≠ 20 → F2 q = f q) → (F2 17 = G) → (flI (fdQ f mn mo mt mg pn n dy) m9 (F2 20) c9) → ∀ (H : Heap) (locs : List Loc), md_I D cs H x g (upd (upd i 0 (goV (isD dy) true true)) 5 (nI c9)) F2 → va_S (md_A x g) s.heap H locs → ∀ (ls : Array Slot), lv_has ls 5 [(0, .ref x), (1, .int dy), (2, .int (nI m9))] → W p l e (headSpec w_Md_find ({ frames := 2, cells := 0, slots := 0, locals := 47 })).room s m ([.ref x, .int dy] : List Value).toArray below meth c H locs 0 0 (MQ below (hQi (fun r H' => if goB (isD dy) true true = true then (∃ (c9 : Nat) (F9 : Nat → Nat → Int32), md_I D cs H' x g (upd (upd i 0 (goV (isD dy) true true)) 5 (nI c9)) F9 ∧ r = nI c9 ∧ flI (fdQ f mn mo mt mg pn n dy) n (F9 20) c9 ∧ ∀ q, q ≠ 17 → q ≠ 20 → F9 q = f q) else (md_I D cs H' x g (upd i 0 (goV (isD dy) true true)) f ∧ r = 0)) (md_A x g)) ([.ref x, .int dy] : List Value).toArray s 0 0 (md_A x g)) (F0 m 27 ls []) := by
      intro fuel27
      induction fuel27 with
      | zero => intro F2 c9 m9 hn; exact absurd hn (Nat.not_lt_zero _)
      | succ fuel27 ih27 =>
        intro F2 c9 m9 hn27 hm9 hF2 hG2 hL2 H locs hI hS ls hl
        refine lv_iload_n hx hb d_Md_find_27 rfl (lv_at hl 2 rfl) ?_
        refine lv_aload_n hx hb d_Md_find_28 rfl (lv_at hl 0 rfl) ?_
        refine hx_get (v := .int ((upd (upd i 0 (goV (isD dy) true true)) 5 (nI c9)) 2)) hx hb htg iMd hown hK hI.1 rfl 3 (by decide) (htg _ (gw_mem (i := 1001) (by decide +kernel) rfl)) (fun _ h9 => h9) rfl d_Md_find_29 ?_
        refine lv_eqi (y := (nI n)) hn ?_
        refine lv_icmp_ge (x := (nI m9)) (y := (nI n)) (tgt := 121) hx hb d_Md_find_32 (by decide) (fun c32 => ?_) (fun c32 => ?_)
        · skip
          replace c32 : n ≤ m9 := (nI_leI (a := n) (b := m9) (by omega) (by omega)).mp c32
          refine lv_aload_n hx hb d_Md_find_121 rfl (lv_at hl 0 rfl) ?_
          refine hx_get (v := .int (nI c9)) hx hb htg iMd hown hK hI.1 rfl 25 (by decide) (htg _ (gw_mem (i := 1023) (by decide +kernel) rfl)) (fun _ h9 => h9) rfl d_Md_find_122 ?_
          exact W.iret (v := (nI c9)) hx hb hr (fun t ht hW => ⟨⟨(nI c9), H, rfl, by dsimp only; rw [if_pos c10]; exact ⟨c9, F2, hI, rfl, (by have e9 : m9 = n := (by omega); subst e9; exact hL2), hF2⟩, ht⟩, hS.F ht⟩) hS.2.2 d_Md_find_125
        · skip
          replace c32 : ¬ (n ≤ m9) := fun z9 => c32 ((nI_leI (a := n) (b := m9) (by omega) (by omega)).mpr z9)
          have hgm := (hGgl m9 (by omega)).2.1
          have hc9 := hL2.le
          refine lv_iconst (v := 0) hx hb d_Md_find_35 (by decide) ?_
          refine lv_istore_n (lv' := [(3, .int 0), (0, .ref x), (1, .int dy), (2, .int (nI m9))]) hx hb d_Md_find_36 rfl hl (by decide) rfl (fun ls hl => ?_)
          refine lv_iconst (v := 0) hx hb d_Md_find_37 (by decide) ?_
          refine lv_istore (lv' := [(4, .int 0), (3, .int 0), (0, .ref x), (1, .int dy), (2, .int (nI m9))]) hx hb d_Md_find_38 hl (by decide) rfl (fun ls hl => ?_)
          have loop40 : ∀ (fuel : Nat) (z : Bool) (k : Nat), n - k < fuel → (k ≤ n) → (anyTo (fdP f mn mo mt mg pn dy m9) k = z) → ∀ (H : Heap) (locs : List Loc), md_I D cs H x g (upd (upd i 0 (goV (isD dy) true true)) 5 (nI c9)) F2 → va_S (md_A x g) s.heap H locs → ∀ (ls : Array Slot), lv_has ls 5 [(0, .ref x), (1, .int dy), (2, .int (nI m9)), (3, .int (bI z)), (4, .int (nI k))] → W p l e (headSpec w_Md_find ({ frames := 2, cells := 0, slots := 0, locals := 47 })).room s m ([.ref x, .int dy] : List Value).toArray below meth c H locs 0 0 (MQ below (hQi (fun r H' => if goB (isD dy) true true = true then (∃ (c9 : Nat) (F9 : Nat → Nat → Int32), md_I D cs H' x g (upd (upd i 0 (goV (isD dy) true true)) 5 (nI c9)) F9 ∧ r = nI c9 ∧ flI (fdQ f mn mo mt mg pn n dy) n (F9 20) c9 ∧ ∀ q, q ≠ 17 → q ≠ 20 → F9 q = f q) else (md_I D cs H' x g (upd i 0 (goV (isD dy) true true)) f ∧ r = 0)) (md_A x g)) ([.ref x, .int dy] : List Value).toArray s 0 0 (md_A x g)) (F0 m 40 ls []) := by
            intro fuel40
            induction fuel40 with
            | zero => intro z k hn; exact absurd hn (Nat.not_lt_zero _)
            | succ fuel40 ih40 =>
              intro z k hn40 hk hz9 H locs hI hS ls hl
              refine lv_iload hx hb d_Md_find_40 (lv_at hl 4 rfl) ?_
              refine lv_aload_n hx hb d_Md_find_42 rfl (lv_at hl 0 rfl) ?_
              refine hx_get (v := .int ((upd (upd i 0 (goV (isD dy) true true)) 5 (nI c9)) 2)) hx hb htg iMd hown hK hI.1 rfl 3 (by decide) (htg _ (gw_mem (i := 1001) (by decide +kernel) rfl)) (fun _ h9 => h9) rfl d_Md_find_43 ?_
              refine lv_eqi (y := (nI n)) hn ?_
              refine lv_icmp_ge (x := (nI k)) (y := (nI n)) (tgt := 91) hx hb d_Md_find_46 (by decide) (fun c46 => ?_) (fun c46 => ?_)
              · skip
                replace c46 : n ≤ k := (nI_leI (a := n) (b := k) (by omega) (by omega)).mp c46
                refine lv_iload_n hx hb d_Md_find_91 rfl (lv_at hl 3 rfl) ?_
                refine lv_if_eq (x := (bI z)) (tgt := 115) hx hb d_Md_find_92 (by decide) (fun c92 => ?_) (fun c92 => ?_)
                · skip
                  replace c92 : z = false := bI_0 c92
                  refine lv_iinc (v := (nI (m9 + 1))) (lv' := [(2, .int (nI (m9 + 1))), (0, .ref x), (1, .int dy), (3, .int (bI z)), (4, .int (nI k))]) hx hb d_Md_find_115 hl (k := 2) rfl (nI_1 m9) (by decide) rfl (fun ls hl => ?_)
                  refine lv_goto (tgt := 27) hx hb d_Md_find_118 (by decide) ?_
                  exact ih27  _ c9 (m9 + 1) (by omega) (by omega) hF2 hG2 (hL2.miss (by have e9 : k = n := (by omega); subst e9; unfold fdQ; rw [hz9]; exact c92)) _ _ hI hS ls (lv_sub hl [1, 2, 0] rfl)
                · skip
                  replace c92 : z = true := bI_1 c92
                  refine lv_aload_n hx hb d_Md_find_95 rfl (lv_at hl 0 rfl) ?_
                  refine hx_get (v := .ref (g 20)) hx hb htg iMd hown hK hI.1 rfl 26 (by decide) (htg _ (gw_mem (i := 1024) (by decide +kernel) rfl)) (fun _ h9 => h9) rfl d_Md_find_96 ?_
                  refine lv_aload_n hx hb d_Md_find_99 rfl (lv_at hl 0 rfl) ?_
                  refine hx_get (v := .int (nI c9)) hx hb htg iMd hown hK hI.1 rfl 25 (by decide) (htg _ (gw_mem (i := 1023) (by decide +kernel) rfl)) (fun _ h9 => h9) rfl d_Md_find_100 ?_
                  refine lv_iload_n hx hb d_Md_find_103 rfl (lv_at hl 2 rfl) ?_
                  refine hx_iast hx hb hK hS (Or.inr ⟨20, by decide, rfl⟩) 0 (hI.2 20 (by decide)) rfl (show vp_in (nI c9) 24 from vp_in_nI (n := c9) (by omega) (by decide)) d_Md_find_104 (fun H locs hat hz ho hS => ?_)
                  replace hI : md_I D cs H x g (upd (upd i 0 (goV (isD dy) true true)) 5 (nI c9)) (updA F2 20 c9 ((nI m9))) := md_I.puta hI hsep (by decide) (by rw [show ((nI c9) : Int32).toNatClampNeg = c9 from nI_clamp (n := c9) (by omega)] at hat; exact hat) ho
                  refine lv_aload_n hx hb d_Md_find_105 rfl (lv_at hl 0 rfl) ?_
                  refine lv_dup hx hb d_Md_find_106 rfl ?_
                  refine hx_get (v := .int (nI c9)) hx hb htg iMd hown hK hI.1 rfl 25 (by decide) (htg _ (gw_mem (i := 1023) (by decide +kernel) rfl)) (fun _ h9 => h9) rfl d_Md_find_107 ?_
                  refine lv_iconst (v := 1) hx hb d_Md_find_110 (by decide) ?_
                  refine lv_iadd (x := (nI c9)) (y := 1) hx hb d_Md_find_111 ?_
                  refine lv_eqi (y := (nI (c9 + 1))) (nI_add c9 1) ?_
                  refine hx_put (ty := .int) (v := .int (nI (c9 + 1))) hx hb htg iMd tMd tMd_ok nMd hown hK hI.1 hS (Or.inl rfl) rfl 25 (by decide) (htg _ (gw_mem (i := 1023) (by decide +kernel) rfl)) (fun _ h9 => h9) rfl (by decide +kernel) rfl rfl (Nat.le_of_ble_eq_true rfl) d_Md_find_112 (fun H locs hat hz ho hS => ?_)
                  replace hI : md_I D cs H x g (upd (upd (upd i 0 (goV (isD dy) true true)) 5 (nI c9)) 5 ((nI (c9 + 1)))) (updA F2 20 c9 ((nI m9))) := md_I.puti hI hsep hat ho rfl
                  refine lv_iinc (v := (nI (m9 + 1))) (lv' := [(2, .int (nI (m9 + 1))), (0, .ref x), (1, .int dy), (3, .int (bI z)), (4, .int (nI k))]) hx hb d_Md_find_115 hl (k := 2) rfl (nI_1 m9) (by decide) rfl (fun ls hl => ?_)
                  refine lv_goto (tgt := 27) hx hb d_Md_find_118 (by decide) ?_
                  rw [upd_upd] at hI
                  exact ih27  _ (c9 + 1) (m9 + 1) (by omega) (by omega) (fun q h1 h2 => (updA_ne h2).trans (hF2 q h1 h2)) ((updA_ne (by decide)).trans hG2) (by rw [updA_self]; exact hL2.hit (by have e9 : k = n := (by omega); subst e9; unfold fdQ; rw [hz9]; exact c92)) _ _ hI hS ls (lv_sub hl [1, 2, 0] rfl)
              · skip
                replace c46 : ¬ (n ≤ k) := fun z9 => c46 ((nI_leI (a := n) (b := k) (by omega) (by omega)).mpr z9)
                have hgk := (hGgl k (by omega)).2.1
                refine lv_iload_n hx hb d_Md_find_49 rfl (lv_at hl 3 rfl) ?_
                refine lv_if_ne (x := (bI z)) (tgt := 79) hx hb d_Md_find_50 (by decide) (fun c50 => ?_) (fun c50 => ?_)
                · skip
                  replace c50 : z = true := bI_1 c50
                  refine lv_iconst (v := 1) hx hb d_Md_find_79 (by decide) ?_
                  refine lv_goto (tgt := 84) hx hb d_Md_find_80 (by decide) ?_
                  refine lv_istore_n (lv' := [(3, .int 1), (0, .ref x), (1, .int dy), (2, .int (nI m9)), (4, .int (nI k))]) hx hb d_Md_find_84 rfl hl (by decide) rfl (fun ls hl => ?_)
                  refine lv_iinc (v := (nI (k + 1))) (lv' := [(4, .int (nI (k + 1))), (3, .int 1), (0, .ref x), (1, .int dy), (2, .int (nI m9))]) hx hb d_Md_find_85 hl (k := 4) rfl (nI_1 k) (by decide) rfl (fun ls hl => ?_)
                  refine lv_goto (tgt := 40) hx hb d_Md_find_88 (by decide) ?_
                  exact ih40  true (k + 1) (by omega) (by omega) (by rw [anyTo, hz9, c50]; rfl) _ _ hI hS ls (lv_sub hl [2, 3, 4, 1, 0] rfl)
                · skip
                  replace c50 : z = false := bI_0 c50
                  refine lv_aload_n hx hb d_Md_find_53 rfl (lv_at hl 0 rfl) ?_
                  refine hx_get (v := .ref (g 17)) hx hb htg iMd hown hK hI.1 rfl 21 (by decide) (htg _ (gw_mem (i := 1019) (by decide +kernel) rfl)) (fun _ h9 => h9) rfl d_Md_find_54 ?_
                  refine lv_iload hx hb d_Md_find_57 (lv_at hl 4 rfl) ?_
                  refine hx_iald hx hb hK 0 (hI.2 17 (by decide)) rfl (show vp_in (nI k) 24 from vp_in_nI (n := k) (by omega) (by decide)) d_Md_find_59 ?_
                  refine lv_eqi (y := (F2 17 k)) (show F2 17 (nI k).toNatClampNeg = _ by rw [nI_clamp (by omega)]) ?_
                  refine lv_eqi (y := (nI (gl k))) (by rw [hG2]; exact (hGgl k (by omega)).1) ?_
                  refine lv_aload_n hx hb d_Md_find_60 rfl (lv_at hl 0 rfl) ?_
                  refine hx_get (v := .ref (g 17)) hx hb htg iMd hown hK hI.1 rfl 21 (by decide) (htg _ (gw_mem (i := 1019) (by decide +kernel) rfl)) (fun _ h9 => h9) rfl d_Md_find_61 ?_
                  refine lv_iload_n hx hb d_Md_find_64 rfl (lv_at hl 2 rfl) ?_
                  refine hx_iald hx hb hK 0 (hI.2 17 (by decide)) rfl (show vp_in (nI m9) 24 from vp_in_nI (n := m9) (by omega) (by decide)) d_Md_find_65 ?_
                  refine lv_eqi (y := (F2 17 m9)) (show F2 17 (nI m9).toNatClampNeg = _ by rw [nI_clamp (by omega)]) ?_
                  refine lv_eqi (y := (nI (gl m9))) (by rw [hG2]; exact (hGgl m9 (by omega)).1) ?_
                  refine lv_icmp_ne (x := (nI (gl k))) (y := (nI (gl m9))) (tgt := 83) hx hb d_Md_find_66 (by decide) (fun c66 => ?_) (fun c66 => ?_)
                  · skip
                    replace c66 : ¬ ((gl k) = (gl m9)) := fun z9 => c66 ((nI_eq (a := (gl k)) (b := (gl m9)) (by omega) (by omega)).mpr z9)
                    refine lv_iconst (v := 0) hx hb d_Md_find_83 (by decide) ?_
                    refine lv_istore_n (lv' := [(3, .int 0), (0, .ref x), (1, .int dy), (2, .int (nI m9)), (4, .int (nI k))]) hx hb d_Md_find_84 rfl hl (by decide) rfl (fun ls hl => ?_)
                    refine lv_iinc (v := (nI (k + 1))) (lv' := [(4, .int (nI (k + 1))), (3, .int 0), (0, .ref x), (1, .int dy), (2, .int (nI m9))]) hx hb d_Md_find_85 hl (k := 4) rfl (nI_1 k) (by decide) rfl (fun ls hl => ?_)
                    refine lv_goto (tgt := 40) hx hb d_Md_find_88 (by decide) ?_
                    exact ih40  false (k + 1) (by omega) (by omega) (by rw [anyTo, hz9, c50]; unfold fdP; rw [oneB_f hGgl hCgl (by omega) (by omega) c66]; simp) _ _ hI hS ls (lv_sub hl [2, 3, 4, 1, 0] rfl)
                  · skip
                    replace c66 : (gl k) = (gl m9) := (nI_eq (a := (gl k)) (b := (gl m9)) (by omega) (by omega)).mp c66
                    refine lv_aload_n hx hb d_Md_find_69 rfl (lv_at hl 0 rfl) ?_
                    refine lv_iload hx hb d_Md_find_70 (lv_at hl 4 rfl) ?_
                    refine lv_iload_n hx hb d_Md_find_72 rfl (lv_at hl 1 rfl) ?_
                    refine h_calli (va_runV (As := [.int (nI k), .int dy]) (rest := []) ⟨hx, hb, hml, hown, htg⟩ (c_Md_hasPad l D cs N0 H x g ((upd (upd i 0 (goV (isD dy) true true)) 5 (nI c9))) F2 k dy hsep hI pn hpn hp12 mn (fun a ha => by rw [hF2 1 (by decide) (by decide)]; exact hm a ha) (by omega)) (cwV 2 htg (gw_V (gw_mem (i := 1188) (by decide +kernel) rfl) (gw_mem (i := 1190) (by decide +kernel) rfl) (gw_mem (i := 26) (by decide +kernel) rfl) (gw_mem (i := 38) (by decide +kernel) rfl) (gw_mem (i := 1191) (by decide +kernel) rfl)) rfl rfl rfl (by decide +kernel) ⟨Nat.le_of_ble_eq_true rfl, Nat.le_of_ble_eq_true rfl⟩) ⟨hPre.blind, hx_recv hK (ci := 0) rfl hI.1, hPre.at hB hS hsep.A⟩ rfl rfl hl.1 rfl (lv_room (Nat.le_of_ble_eq_true rfl)) d_Md_find_73 ⟨Nat.zero_le _, Nat.zero_le _⟩) hS (fun _ h => h) (fun r73 H locs hp hz hk hS => ?_)
                    obtain ⟨hI, er73⟩ := hp
                    refine lv_eqi (y := (bI (anyTo (hasP f pn k dy) (mn k)))) (er73.trans (by rw [hasP_congr hF2])) ?_
                    refine lv_if_eq (x := (bI (anyTo (hasP f pn k dy) (mn k)))) (tgt := 83) hx hb d_Md_find_76 (by decide) (fun c76 => ?_) (fun c76 => ?_)
                    · skip
                      replace c76 : (anyTo (hasP f pn k dy) (mn k)) = false := bI_0 c76
                      refine lv_iconst (v := 0) hx hb d_Md_find_83 (by decide) ?_
                      refine lv_istore_n (lv' := [(3, .int 0), (0, .ref x), (1, .int dy), (2, .int (nI m9)), (4, .int (nI k))]) hx hb d_Md_find_84 rfl hl (by decide) rfl (fun ls hl => ?_)
                      refine lv_iinc (v := (nI (k + 1))) (lv' := [(4, .int (nI (k + 1))), (3, .int 0), (0, .ref x), (1, .int dy), (2, .int (nI m9))]) hx hb d_Md_find_85 hl (k := 4) rfl (nI_1 k) (by decide) rfl (fun ls hl => ?_)
                      refine lv_goto (tgt := 40) hx hb d_Md_find_88 (by decide) ?_
                      exact ih40  false (k + 1) (by omega) (by omega) (by rw [anyTo, hz9, c50]; unfold fdP; rw [oneB_t hGgl hCgl (by omega) (by omega) c66, c76]; simp) _ _ hI hS ls (lv_sub hl [2, 3, 4, 1, 0] rfl)
                    · skip
                      replace c76 : (anyTo (hasP f pn k dy) (mn k)) = true := bI_1 c76
                      refine lv_iconst (v := 1) hx hb d_Md_find_79 (by decide) ?_
                      refine lv_goto (tgt := 84) hx hb d_Md_find_80 (by decide) ?_
                      refine lv_istore_n (lv' := [(3, .int 1), (0, .ref x), (1, .int dy), (2, .int (nI m9)), (4, .int (nI k))]) hx hb d_Md_find_84 rfl hl (by decide) rfl (fun ls hl => ?_)
                      refine lv_iinc (v := (nI (k + 1))) (lv' := [(4, .int (nI (k + 1))), (3, .int 1), (0, .ref x), (1, .int dy), (2, .int (nI m9))]) hx hb d_Md_find_85 hl (k := 4) rfl (nI_1 k) (by decide) rfl (fun ls hl => ?_)
                      refine lv_goto (tgt := 40) hx hb d_Md_find_88 (by decide) ?_
                      exact ih40  true (k + 1) (by omega) (by omega) (by rw [anyTo, hz9, c50]; unfold fdP; rw [oneB_t hGgl hCgl (by omega) (by omega) c66, c76]; simp) _ _ hI hS ls (lv_sub hl [2, 3, 4, 1, 0] rfl)
          exact loop40 ((n - 0) + 1) false 0 (Nat.lt_succ_self _) (Nat.zero_le _) rfl _ _ hI hS ls (lv_sub hl [2, 3, 4, 1, 0] rfl)
    exact loop27 ((n - 0) + 1) _ 0 0 (Nat.lt_succ_self _) (Nat.zero_le _) (fun q h1 h2 => setA_ne h1) (setA_self _ _ _) (⟨rfl, fun k p hk => by simp [selL] at hk⟩) _ _ hI hS ls (lv_sub hl [1, 2, 0] rfl)
  · skip
    replace c10 : (goB (isD dy) true true) = false := bI_0 c10
    refine lv_iconst (v := 0) hx hb d_Md_find_13 (by decide) ?_
    exact W.iret (v := 0) hx hb hr (fun t ht hW => ⟨⟨0, H, rfl, by dsimp only; rw [if_neg (show ¬ goB (isD dy) true true = true by rw [c10]; decide)]; exact ⟨hI, rfl⟩, ht⟩, hS.F ht⟩) hS.2.2 d_Md_find_14
end
