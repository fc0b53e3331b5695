section
/-- a private method of a class that the tables say can be made, by its rows of tables_1 -/
def lw_okq (q : MethodName × Nat) : Prop := (q.1.cls ≠ "java/lang/invoke/MethodHandle" ∧ q.1.cls ≠ "java/lang/invoke/VarHandle") ∧ Cond.instantiable q.1.cls q.2 ∈ tables_1 ∧ Cond.privateMethod q.1 ∈ tables_1 ∧ Cond.instanceMethod q.1 ∈ tables_1
theorem lw_p0 : lw_okq (⟨"java/lang/Throwable", "fillInStackTrace", "(I)Ljava/lang/Throwable;"⟩, 6) := ⟨⟨by decide +kernel, by decide +kernel⟩, List.mem_of_getElem? (i := 364) (by decide +kernel), List.mem_of_getElem? (i := 362) (by decide +kernel), List.mem_of_getElem? (i := 363) (by decide +kernel)⟩
theorem lw_p1 : lw_okq (⟨"NameMerges", "oneWith", "(II)I"⟩, 8) := ⟨⟨by decide +kernel, by decide +kernel⟩, List.mem_of_getElem? (i := 31) (by decide +kernel), List.mem_of_getElem? (i := 477) (by decide +kernel), List.mem_of_getElem? (i := 478) (by decide +kernel)⟩
theorem lw_p2 : lw_okq (⟨"NameMerges", "likeness", "(LNameMerges$Name;LNameMerges$Name;)I"⟩, 8) := ⟨⟨by decide +kernel, by decide +kernel⟩, List.mem_of_getElem? (i := 31) (by decide +kernel), List.mem_of_getElem? (i := 509) (by decide +kernel), List.mem_of_getElem? (i := 510) (by decide +kernel)⟩
theorem lw_p3 : lw_okq (⟨"NameMerges", "mostPoints", "(LNameMerges$Name;LNameMerges$Name;)I"⟩, 8) := ⟨⟨by decide +kernel, by decide +kernel⟩, List.mem_of_getElem? (i := 31) (by decide +kernel), List.mem_of_getElem? (i := 513) (by decide +kernel), List.mem_of_getElem? (i := 514) (by decide +kernel)⟩
theorem lw_p4 : lw_okq (⟨"NameMerges", "points", "(Ljava/lang/String;Ljava/lang/String;)I"⟩, 8) := ⟨⟨by decide +kernel, by decide +kernel⟩, List.mem_of_getElem? (i := 31) (by decide +kernel), List.mem_of_getElem? (i := 518) (by decide +kernel), List.mem_of_getElem? (i := 519) (by decide +kernel)⟩
theorem lw_p5 : lw_okq (⟨"NameMerges", "longestShared", "(Ljava/lang/String;Ljava/lang/String;)I"⟩, 8) := ⟨⟨by decide +kernel, by decide +kernel⟩, List.mem_of_getElem? (i := 31) (by decide +kernel), List.mem_of_getElem? (i := 523) (by decide +kernel), List.mem_of_getElem? (i := 524) (by decide +kernel)⟩
theorem lw_p6 : lw_okq (⟨"NameMerges", "keepPair", "(I)V"⟩, 8) := ⟨⟨by decide +kernel, by decide +kernel⟩, List.mem_of_getElem? (i := 31) (by decide +kernel), List.mem_of_getElem? (i := 556) (by decide +kernel), List.mem_of_getElem? (i := 557) (by decide +kernel)⟩
theorem lw_p7 : lw_okq (⟨"NameMerges", "isLost", "(LNameMerges$Name;LNameMerges$Name;I)Z"⟩, 8) := ⟨⟨by decide +kernel, by decide +kernel⟩, List.mem_of_getElem? (i := 31) (by decide +kernel), List.mem_of_getElem? (i := 564) (by decide +kernel), List.mem_of_getElem? (i := 565) (by decide +kernel)⟩
theorem lw_p8 : lw_okq (⟨"java/util/ArrayList", "add", "(Ljava/lang/Object;[Ljava/lang/Object;I)V"⟩, 3) := ⟨⟨by decide +kernel, by decide +kernel⟩, List.mem_of_getElem? (i := 72) (by decide +kernel), List.mem_of_getElem? (i := 657) (by decide +kernel), List.mem_of_getElem? (i := 658) (by decide +kernel)⟩
theorem lw_p9 : lw_okq (⟨"java/util/ArrayList", "grow", "()[Ljava/lang/Object;"⟩, 3) := ⟨⟨by decide +kernel, by decide +kernel⟩, List.mem_of_getElem? (i := 72) (by decide +kernel), List.mem_of_getElem? (i := 661) (by decide +kernel), List.mem_of_getElem? (i := 662) (by decide +kernel)⟩
theorem lw_p10 : lw_okq (⟨"java/util/ArrayList", "grow", "(I)[Ljava/lang/Object;"⟩, 3) := ⟨⟨by decide +kernel, by decide +kernel⟩, List.mem_of_getElem? (i := 72) (by decide +kernel), List.mem_of_getElem? (i := 665) (by decide +kernel), List.mem_of_getElem? (i := 666) (by decide +kernel)⟩
theorem lw_p11 : lw_okq (⟨"NameMerges", "checkName", "(I)V"⟩, 8) := ⟨⟨by decide +kernel, by decide +kernel⟩, List.mem_of_getElem? (i := 31) (by decide +kernel), List.mem_of_getElem? (i := 707) (by decide +kernel), List.mem_of_getElem? (i := 708) (by decide +kernel)⟩
theorem lw_p12 : lw_okq (⟨"NameMerges", "areOneFrom", "(III)Z"⟩, 8) := ⟨⟨by decide +kernel, by decide +kernel⟩, List.mem_of_getElem? (i := 31) (by decide +kernel), List.mem_of_getElem? (i := 818) (by decide +kernel), List.mem_of_getElem? (i := 819) (by decide +kernel)⟩
theorem lw_p13 : lw_okq (⟨"NameMerges", "coverBelow", "(II)V"⟩, 8) := ⟨⟨by decide +kernel, by decide +kernel⟩, List.mem_of_getElem? (i := 31) (by decide +kernel), List.mem_of_getElem? (i := 870) (by decide +kernel), List.mem_of_getElem? (i := 871) (by decide +kernel)⟩
theorem lw_p14 : lw_okq (⟨"NameMerges", "ownerOf", "(II)I"⟩, 8) := ⟨⟨by decide +kernel, by decide +kernel⟩, List.mem_of_getElem? (i := 31) (by decide +kernel), List.mem_of_getElem? (i := 933) (by decide +kernel), List.mem_of_getElem? (i := 934) (by decide +kernel)⟩
theorem lw_p15 : lw_okq (⟨"NameMerges", "countVariants", "()I"⟩, 8) := ⟨⟨by decide +kernel, by decide +kernel⟩, List.mem_of_getElem? (i := 31) (by decide +kernel), List.mem_of_getElem? (i := 951) (by decide +kernel), List.mem_of_getElem? (i := 952) (by decide +kernel)⟩
def lw_privs_1 : List (MethodName × Nat) := [(⟨"java/lang/Throwable", "fillInStackTrace", "(I)Ljava/lang/Throwable;"⟩, 6), (⟨"NameMerges", "oneWith", "(II)I"⟩, 8), (⟨"NameMerges", "likeness", "(LNameMerges$Name;LNameMerges$Name;)I"⟩, 8), (⟨"NameMerges", "mostPoints", "(LNameMerges$Name;LNameMerges$Name;)I"⟩, 8), (⟨"NameMerges", "points", "(Ljava/lang/String;Ljava/lang/String;)I"⟩, 8), (⟨"NameMerges", "longestShared", "(Ljava/lang/String;Ljava/lang/String;)I"⟩, 8), (⟨"NameMerges", "keepPair", "(I)V"⟩, 8), (⟨"NameMerges", "isLost", "(LNameMerges$Name;LNameMerges$Name;I)Z"⟩, 8), (⟨"java/util/ArrayList", "add", "(Ljava/lang/Object;[Ljava/lang/Object;I)V"⟩, 3), (⟨"java/util/ArrayList", "grow", "()[Ljava/lang/Object;"⟩, 3), (⟨"java/util/ArrayList", "grow", "(I)[Ljava/lang/Object;"⟩, 3), (⟨"NameMerges", "checkName", "(I)V"⟩, 8), (⟨"NameMerges", "areOneFrom", "(III)Z"⟩, 8), (⟨"NameMerges", "coverBelow", "(II)V"⟩, 8), (⟨"NameMerges", "ownerOf", "(II)I"⟩, 8), (⟨"NameMerges", "countVariants", "()I"⟩, 8)]
theorem lw_r1 : ∀ q ∈ lw_privs_1, lw_okq q := List.forall_mem_cons.mpr ⟨lw_p0, List.forall_mem_cons.mpr ⟨lw_p1, List.forall_mem_cons.mpr ⟨lw_p2, List.forall_mem_cons.mpr ⟨lw_p3, List.forall_mem_cons.mpr ⟨lw_p4, List.forall_mem_cons.mpr ⟨lw_p5, List.forall_mem_cons.mpr ⟨lw_p6, List.forall_mem_cons.mpr ⟨lw_p7, List.forall_mem_cons.mpr ⟨lw_p8, List.forall_mem_cons.mpr ⟨lw_p9, List.forall_mem_cons.mpr ⟨lw_p10, List.forall_mem_cons.mpr ⟨lw_p11, List.forall_mem_cons.mpr ⟨lw_p12, List.forall_mem_cons.mpr ⟨lw_p13, List.forall_mem_cons.mpr ⟨lw_p14, List.forall_mem_cons.mpr ⟨lw_p15, fun _ h => absurd h List.not_mem_nil⟩⟩⟩⟩⟩⟩⟩⟩⟩⟩⟩⟩⟩⟩⟩⟩
theorem lw_p16 : lw_okq (⟨"NameMerges", "countDecided", "()I"⟩, 8) := ⟨⟨by decide +kernel, by decide +kernel⟩, List.mem_of_getElem? (i := 31) (by decide +kernel), List.mem_of_getElem? (i := 955) (by decide +kernel), List.mem_of_getElem? (i := 956) (by decide +kernel)⟩
theorem lw_p17 : lw_okq (⟨"NameMerges", "countBroader", "()I"⟩, 8) := ⟨⟨by decide +kernel, by decide +kernel⟩, List.mem_of_getElem? (i := 31) (by decide +kernel), List.mem_of_getElem? (i := 959) (by decide +kernel), List.mem_of_getElem? (i := 960) (by decide +kernel)⟩
theorem lw_p18 : lw_okq (⟨"NameMergesModel", "goes", "(ZZZ)Z"⟩, 28) := ⟨⟨by decide +kernel, by decide +kernel⟩, List.mem_of_getElem? (i := 964) (by decide +kernel), List.mem_of_getElem? (i := 1064) (by decide +kernel), List.mem_of_getElem? (i := 1065) (by decide +kernel)⟩
theorem lw_p19 : lw_okq (⟨"NameMergesModel", "isName", "(I)Z"⟩, 28) := ⟨⟨by decide +kernel, by decide +kernel⟩, List.mem_of_getElem? (i := 964) (by decide +kernel), List.mem_of_getElem? (i := 1080) (by decide +kernel), List.mem_of_getElem? (i := 1081) (by decide +kernel)⟩
theorem lw_p20 : lw_okq (⟨"NameMergesModel", "likeness", "(II)I"⟩, 28) := ⟨⟨by decide +kernel, by decide +kernel⟩, List.mem_of_getElem? (i := 964) (by decide +kernel), List.mem_of_getElem? (i := 1096) (by decide +kernel), List.mem_of_getElem? (i := 1097) (by decide +kernel)⟩
theorem lw_p21 : lw_okq (⟨"NameMergesModel", "common", "(II)I"⟩, 28) := ⟨⟨by decide +kernel, by decide +kernel⟩, List.mem_of_getElem? (i := 964) (by decide +kernel), List.mem_of_getElem? (i := 1100) (by decide +kernel), List.mem_of_getElem? (i := 1101) (by decide +kernel)⟩
theorem lw_p22 : lw_okq (⟨"NameMergesModel", "join", "(I)V"⟩, 28) := ⟨⟨by decide +kernel, by decide +kernel⟩, List.mem_of_getElem? (i := 964) (by decide +kernel), List.mem_of_getElem? (i := 1108) (by decide +kernel), List.mem_of_getElem? (i := 1109) (by decide +kernel)⟩
theorem lw_p23 : lw_okq (⟨"NameMergesModel", "begin", "(II)Z"⟩, 28) := ⟨⟨by decide +kernel, by decide +kernel⟩, List.mem_of_getElem? (i := 964) (by decide +kernel), List.mem_of_getElem? (i := 1120) (by decide +kernel), List.mem_of_getElem? (i := 1121) (by decide +kernel)⟩
theorem lw_p24 : lw_okq (⟨"NameMergesModel", "everOne", "(III)Z"⟩, 28) := ⟨⟨by decide +kernel, by decide +kernel⟩, List.mem_of_getElem? (i := 964) (by decide +kernel), List.mem_of_getElem? (i := 1132) (by decide +kernel), List.mem_of_getElem? (i := 1133) (by decide +kernel)⟩
theorem lw_p25 : lw_okq (⟨"NameMergesModel", "close", "()V"⟩, 28) := ⟨⟨by decide +kernel, by decide +kernel⟩, List.mem_of_getElem? (i := 964) (by decide +kernel), List.mem_of_getElem? (i := 1148) (by decide +kernel), List.mem_of_getElem? (i := 1149) (by decide +kernel)⟩
theorem lw_p26 : lw_okq (⟨"NameMergesModel", "hasPad", "(II)Z"⟩, 28) := ⟨⟨by decide +kernel, by decide +kernel⟩, List.mem_of_getElem? (i := 964) (by decide +kernel), List.mem_of_getElem? (i := 1160) (by decide +kernel), List.mem_of_getElem? (i := 1161) (by decide +kernel)⟩
theorem lw_p27 : lw_okq (⟨"NameMergesModel", "isPad", "(I)Z"⟩, 28) := ⟨⟨by decide +kernel, by decide +kernel⟩, List.mem_of_getElem? (i := 964) (by decide +kernel), List.mem_of_getElem? (i := 1164) (by decide +kernel), List.mem_of_getElem? (i := 1165) (by decide +kernel)⟩
theorem lw_p28 : lw_okq (⟨"NameMergesModel", "owner", "(II)I"⟩, 28) := ⟨⟨by decide +kernel, by decide +kernel⟩, List.mem_of_getElem? (i := 964) (by decide +kernel), List.mem_of_getElem? (i := 1180) (by decide +kernel), List.mem_of_getElem? (i := 1181) (by decide +kernel)⟩
def lw_privs_2 : List (MethodName × Nat) := [(⟨"NameMerges", "countDecided", "()I"⟩, 8), (⟨"NameMerges", "countBroader", "()I"⟩, 8), (⟨"NameMergesModel", "goes", "(ZZZ)Z"⟩, 28), (⟨"NameMergesModel", "isName", "(I)Z"⟩, 28), (⟨"NameMergesModel", "likeness", "(II)I"⟩, 28), (⟨"NameMergesModel", "common", "(II)I"⟩, 28), (⟨"NameMergesModel", "join", "(I)V"⟩, 28), (⟨"NameMergesModel", "begin", "(II)Z"⟩, 28), (⟨"NameMergesModel", "everOne", "(III)Z"⟩, 28), (⟨"NameMergesModel", "close", "()V"⟩, 28), (⟨"NameMergesModel", "hasPad", "(II)Z"⟩, 28), (⟨"NameMergesModel", "isPad", "(I)Z"⟩, 28), (⟨"NameMergesModel", "owner", "(II)I"⟩, 28)]
theorem lw_r2 : ∀ q ∈ lw_privs_2, lw_okq q := List.forall_mem_cons.mpr ⟨lw_p16, List.forall_mem_cons.mpr ⟨lw_p17, List.forall_mem_cons.mpr ⟨lw_p18, List.forall_mem_cons.mpr ⟨lw_p19, List.forall_mem_cons.mpr ⟨lw_p20, List.forall_mem_cons.mpr ⟨lw_p21, List.forall_mem_cons.mpr ⟨lw_p22, List.forall_mem_cons.mpr ⟨lw_p23, List.forall_mem_cons.mpr ⟨lw_p24, List.forall_mem_cons.mpr ⟨lw_p25, List.forall_mem_cons.mpr ⟨lw_p26, List.forall_mem_cons.mpr ⟨lw_p27, List.forall_mem_cons.mpr ⟨lw_p28, fun _ h => absurd h List.not_mem_nil⟩⟩⟩⟩⟩⟩⟩⟩⟩⟩⟩⟩⟩
def lw_privs : List (MethodName × Nat) := lw_privs_1 ++ (lw_privs_2)
def lw_tbl : List Cond := k2_sels lw_privs ++ tables_1
theorem lw_privs_ok : ∀ q ∈ lw_privs, lw_okq q := by
  show ∀ q ∈ lw_privs_1 ++ (lw_privs_2), lw_okq q
  exact List.forall_mem_append.mpr ⟨lw_r1, lw_r2⟩
/-! the words that every callee may take over -/
def gw : List Cond := lw_tbl.filter goodWord
theorem gw_mem {w : Cond} {i : Nat} (h : lw_tbl[i]? = some w) (hg : goodWord w = true) : w ∈ gw := List.mem_filter.mpr ⟨List.mem_of_getElem? h, hg⟩
theorem gw_good {w : Cond} (h : w ∈ gw) : (w.onTables && w.keeps) = true ∨ ∃ ty, w = .arrayClass ty := good_of_word (List.mem_filter.mp h).2
theorem gw_sub {ws : List Cond} (h : ∀ w ∈ ws, w ∈ gw) : GoodIn gw ws := fun w hw => ⟨h w hw, gw_good (h w hw)⟩
theorem gw_cons {w : Cond} {ws : List Cond} (h : w ∈ gw) (t : ∀ w ∈ ws, w ∈ gw) : ∀ x ∈ w :: ws, x ∈ gw := fun x hx => (List.mem_cons.mp hx).elim (fun e => e ▸ h) (t x)
theorem gw_V {own C : String} {idx n : Nat} {z : MethodName} {cz : ByteArray} {rz : Option FieldType} (h1 : Cond.methodLink own idx z ∈ gw) (h2 : Cond.instanceMethod z ∈ gw) (h3 : Cond.selects C z z ∈ gw) (h4 : Cond.initialized C ∈ gw) (h5 : Cond.code z cz n rz ∈ gw) : GoodIn gw (wsV own idx C z (Cond.code z cz n rz :: gw)) :=
  gw_sub (gw_cons h1 (gw_cons h2 (gw_cons h3 (gw_cons h4 (gw_cons h5 (fun _ h => h))))))
theorem gw_S {own : String} {idx n : Nat} {z : MethodName} {cz : ByteArray} {rz : Option FieldType} (h1 : Cond.methodLink own idx z ∈ gw) (h2 : Cond.static z ∈ gw) (h4 : Cond.initialized own ∈ gw) (h5 : Cond.code z cz n rz ∈ gw) : GoodIn gw (wsS own idx z (Cond.code z cz n rz :: gw)) :=
  gw_sub (gw_cons h1 (gw_cons h2 (gw_cons h4 (gw_cons h5 (fun _ h => h)))))
theorem gw_I {n : Nat} {z : MethodName} {cz : ByteArray} {rz : Option FieldType} (h5 : Cond.code z cz n rz ∈ gw) : GoodIn gw (Cond.code z cz n rz :: gw) := gw_sub (gw_cons h5 (fun _ h => h))
def RMd : String := "NameMergesModel"
def TMd : u_T := fun k => match k with
  | 0 => ("NameMergesModel", "thrown", "I", false)
  | 1 => ("NameMergesModel", "padded", "I", false)
  | 2 => ("NameMergesModel", "pad", "[I", true)
  | 3 => ("NameMergesModel", "names", "I", false)
  | 4 => ("NameMergesModel", "many", "[I", true)
  | 5 => ("NameMergesModel", "lengths", "[I", true)
  | 6 => ("NameMergesModel", "signs", "[I", true)
  | 7 => ("NameMergesModel", "languages", "[I", true)
  | 8 => ("NameMergesModel", "froms", "[I", true)
  | 9 => ("NameMergesModel", "tos", "[I", true)
  | 10 => ("NameMergesModel", "firstDays", "[I", true)
  | 11 => ("NameMergesModel", "lastDays", "[I", true)
  | 12 => ("NameMergesModel", "decided", "[I", true)
  | 13 => ("NameMergesModel", "broad", "[Z", true)
  | 14 => ("NameMergesModel", "reach", "[Z", true)
  | 15 => ("NameMergesModel", "numbers", "[I", true)
  | 16 => ("NameMergesModel", "merges", "I", false)
  | 17 => ("NameMergesModel", "ones", "[I", true)
  | 18 => ("NameMergesModel", "others", "[I", true)
  | 19 => ("NameMergesModel", "begins", "[I", true)
  | 20 => ("NameMergesModel", "ends", "[I", true)
  | 21 => ("NameMergesModel", "group", "[I", true)
  | 22 => ("NameMergesModel", "pairs", "I", false)
  | 23 => ("NameMergesModel", "firsts", "[I", true)
  | 24 => ("NameMergesModel", "seconds", "[I", true)
  | 25 => ("NameMergesModel", "finds", "I", false)
  | 26 => ("NameMergesModel", "founds", "[I", true)
  | _ => ("NameMergesModel", "rows", "[I", true)
def tMd : Nat → FieldType := fun k => match k with
  | 0 => .int
  | 1 => .int
  | 2 => .array (.int)
  | 3 => .int
  | 4 => .array (.int)
  | 5 => .array (.int)
  | 6 => .array (.int)
  | 7 => .array (.int)
  | 8 => .array (.int)
  | 9 => .array (.int)
  | 10 => .array (.int)
  | 11 => .array (.int)
  | 12 => .array (.int)
  | 13 => .array (.boolean)
  | 14 => .array (.boolean)
  | 15 => .array (.int)
  | 16 => .int
  | 17 => .array (.int)
  | 18 => .array (.int)
  | 19 => .array (.int)
  | 20 => .array (.int)
  | 21 => .array (.int)
  | 22 => .int
  | 23 => .array (.int)
  | 24 => .array (.int)
  | 25 => .int
  | 26 => .array (.int)
  | _ => .array (.int)
theorem nMd : ∀ a, a < 28 → ∀ b, b < 28 → a ≠ b → (TMd a).2.1 ≠ (TMd b).2.1 := by decide +kernel
theorem tMd_ok : ∀ k, k < 28 → parseFieldDescriptor (TMd k).2.2.1 = some (tMd k) := by decide +kernel
theorem iMd : ∀ w ∈ u_ws RMd TMd 28, w ∈ gw := by
  have h : u_ws RMd TMd 28 = [Cond.lays "NameMergesModel" "NameMergesModel" "thrown" "I", Cond.lays "NameMergesModel" "NameMergesModel" "padded" "I", Cond.laysFinal "NameMergesModel" "NameMergesModel" "pad" "[I", Cond.lays "NameMergesModel" "NameMergesModel" "names" "I", Cond.laysFinal "NameMergesModel" "NameMergesModel" "many" "[I", Cond.laysFinal "NameMergesModel" "NameMergesModel" "lengths" "[I", Cond.laysFinal "NameMergesModel" "NameMergesModel" "signs" "[I", Cond.laysFinal "NameMergesModel" "NameMergesModel" "languages" "[I", Cond.laysFinal "NameMergesModel" "NameMergesModel" "froms" "[I", Cond.laysFinal "NameMergesModel" "NameMergesModel" "tos" "[I", Cond.laysFinal "NameMergesModel" "NameMergesModel" "firstDays" "[I", Cond.laysFinal "NameMergesModel" "NameMergesModel" "lastDays" "[I", Cond.laysFinal "NameMergesModel" "NameMergesModel" "decided" "[I", Cond.laysFinal "NameMergesModel" "NameMergesModel" "broad" "[Z", Cond.laysFinal "NameMergesModel" "NameMergesModel" "reach" "[Z", Cond.laysFinal "NameMergesModel" "NameMergesModel" "numbers" "[I", Cond.lays "NameMergesModel" "NameMergesModel" "merges" "I", Cond.laysFinal "NameMergesModel" "NameMergesModel" "ones" "[I", Cond.laysFinal "NameMergesModel" "NameMergesModel" "others" "[I", Cond.laysFinal "NameMergesModel" "NameMergesModel" "begins" "[I", Cond.laysFinal "NameMergesModel" "NameMergesModel" "ends" "[I", Cond.laysFinal "NameMergesModel" "NameMergesModel" "group" "[I", Cond.lays "NameMergesModel" "NameMergesModel" "pairs" "I", Cond.laysFinal "NameMergesModel" "NameMergesModel" "firsts" "[I", Cond.laysFinal "NameMergesModel" "NameMergesModel" "seconds" "[I", Cond.lays "NameMergesModel" "NameMergesModel" "finds" "I", Cond.laysFinal "NameMergesModel" "NameMergesModel" "founds" "[I", Cond.laysFinal "NameMergesModel" "NameMergesModel" "rows" "[I"] := by rfl
  rw [h]
  exact gw_cons (gw_mem (i := 1026) (by decide +kernel) rfl) (gw_cons (gw_mem (i := 1028) (by decide +kernel) rfl) (gw_cons (gw_mem (i := 1030) (by decide +kernel) rfl) (gw_cons (gw_mem (i := 1032) (by decide +kernel) rfl) (gw_cons (gw_mem (i := 1034) (by decide +kernel) rfl) (gw_cons (gw_mem (i := 1036) (by decide +kernel) rfl) (gw_cons (gw_mem (i := 1038) (by decide +kernel) rfl) (gw_cons (gw_mem (i := 1040) (by decide +kernel) rfl) (gw_cons (gw_mem (i := 1042) (by decide +kernel) rfl) (gw_cons (gw_mem (i := 1044) (by decide +kernel) rfl) (gw_cons (gw_mem (i := 1046) (by decide +kernel) rfl) (gw_cons (gw_mem (i := 1048) (by decide +kernel) rfl) (gw_cons (gw_mem (i := 1050) (by decide +kernel) rfl) (gw_cons (gw_mem (i := 1052) (by decide +kernel) rfl) (gw_cons (gw_mem (i := 1054) (by decide +kernel) rfl) (gw_cons (gw_mem (i := 1056) (by decide +kernel) rfl) (gw_cons (gw_mem (i := 1058) (by decide +kernel) rfl) (gw_cons (gw_mem (i := 1060) (by decide +kernel) rfl) (gw_cons (gw_mem (i := 1062) (by decide +kernel) rfl) (gw_cons (gw_mem (i := 1064) (by decide +kernel) rfl) (gw_cons (gw_mem (i := 1066) (by decide +kernel) rfl) (gw_cons (gw_mem (i := 1068) (by decide +kernel) rfl) (gw_cons (gw_mem (i := 1070) (by decide +kernel) rfl) (gw_cons (gw_mem (i := 1072) (by decide +kernel) rfl) (gw_cons (gw_mem (i := 1074) (by decide +kernel) rfl) (gw_cons (gw_mem (i := 1076) (by decide +kernel) rfl) (gw_cons (gw_mem (i := 1078) (by decide +kernel) rfl) (gw_cons (gw_mem (i := 1080) (by decide +kernel) rfl) ((fun _ h => absurd h List.not_mem_nil)))))))))))))))))))))))))))))
def RNm : String := "NameMerges"
def TNm : u_T := fun k => match k with
  | 0 => ("NameMerges", "pad", "Ljava/lang/StringBuilder;", true)
  | 1 => ("NameMerges", "names", "Ljava/util/ArrayList;", true)
  | 2 => ("NameMerges", "merges", "Ljava/util/ArrayList;", true)
  | 3 => ("NameMerges", "decisions", "[I", true)
  | 4 => ("NameMerges", "foundPairs", "[I", true)
  | 5 => ("NameMerges", "foundPairCount", "I", false)
  | 6 => ("NameMerges", "foundNames", "I", false)
  | _ => ("NameMerges", "sharedSoFar", "[I", true)
def tNm : Nat → FieldType := fun k => match k with
  | 0 => .object "java/lang/StringBuilder"
  | 1 => .object "java/util/ArrayList"
  | 2 => .object "java/util/ArrayList"
  | 3 => .array (.int)
  | 4 => .array (.int)
  | 5 => .int
  | 6 => .int
  | _ => .array (.int)
theorem nNm : ∀ a, a < 8 → ∀ b, b < 8 → a ≠ b → (TNm a).2.1 ≠ (TNm b).2.1 := by decide +kernel
theorem tNm_ok : ∀ k, k < 8 → parseFieldDescriptor (TNm k).2.2.1 = some (tNm k) := by decide +kernel
theorem iNm : ∀ w ∈ u_ws RNm TNm 8, w ∈ gw := by
  have h : u_ws RNm TNm 8 = [Cond.laysFinal "NameMerges" "NameMerges" "pad" "Ljava/lang/StringBuilder;", Cond.laysFinal "NameMerges" "NameMerges" "names" "Ljava/util/ArrayList;", Cond.laysFinal "NameMerges" "NameMerges" "merges" "Ljava/util/ArrayList;", Cond.laysFinal "NameMerges" "NameMerges" "decisions" "[I", Cond.laysFinal "NameMerges" "NameMerges" "foundPairs" "[I", Cond.lays "NameMerges" "NameMerges" "foundPairCount" "I", Cond.lays "NameMerges" "NameMerges" "foundNames" "I", Cond.laysFinal "NameMerges" "NameMerges" "sharedSoFar" "[I"] := by rfl
  rw [h]
  exact gw_cons (gw_mem (i := 134) (by decide +kernel) rfl) (gw_cons (gw_mem (i := 136) (by decide +kernel) rfl) (gw_cons (gw_mem (i := 138) (by decide +kernel) rfl) (gw_cons (gw_mem (i := 140) (by decide +kernel) rfl) (gw_cons (gw_mem (i := 142) (by decide +kernel) rfl) (gw_cons (gw_mem (i := 144) (by decide +kernel) rfl) (gw_cons (gw_mem (i := 146) (by decide +kernel) rfl) (gw_cons (gw_mem (i := 148) (by decide +kernel) rfl) ((fun _ h => absurd h List.not_mem_nil)))))))))
def RNa : String := "NameMerges$Name"
def TNa : u_T := fun k => match k with
  | 0 => ("NameMerges$Name", "variants", "Ljava/util/ArrayList;", true)
  | 1 => ("NameMerges$Name", "numbers", "[I", true)
  | 2 => ("NameMerges$Name", "dates", "LNameMerges$Days;", false)
  | 3 => ("NameMerges$Name", "languages", "I", false)
  | 4 => ("NameMerges$Name", "beginnings", "I", false)
  | 5 => ("NameMerges$Name", "narrower", "I", false)
  | _ => ("NameMerges$Name", "covered", "I", false)
def tNa : Nat → FieldType := fun k => match k with
  | 0 => .object "java/util/ArrayList"
  | 1 => .array (.int)
  | 2 => .object "NameMerges$Days"
  | 3 => .int
  | 4 => .int
  | 5 => .int
  | _ => .int
theorem nNa : ∀ a, a < 7 → ∀ b, b < 7 → a ≠ b → (TNa a).2.1 ≠ (TNa b).2.1 := by decide +kernel
theorem tNa_ok : ∀ k, k < 7 → parseFieldDescriptor (TNa k).2.2.1 = some (tNa k) := by decide +kernel
theorem iNa : ∀ w ∈ u_ws RNa TNa 7, w ∈ gw := by
  have h : u_ws RNa TNa 7 = [Cond.laysFinal "NameMerges$Name" "NameMerges$Name" "variants" "Ljava/util/ArrayList;", Cond.laysFinal "NameMerges$Name" "NameMerges$Name" "numbers" "[I", Cond.lays "NameMerges$Name" "NameMerges$Name" "dates" "LNameMerges$Days;", Cond.lays "NameMerges$Name" "NameMerges$Name" "languages" "I", Cond.lays "NameMerges$Name" "NameMerges$Name" "beginnings" "I", Cond.lays "NameMerges$Name" "NameMerges$Name" "narrower" "I", Cond.lays "NameMerges$Name" "NameMerges$Name" "covered" "I"] := by rfl
  rw [h]
  exact gw_cons (gw_mem (i := 666) (by decide +kernel) rfl) (gw_cons (gw_mem (i := 668) (by decide +kernel) rfl) (gw_cons (gw_mem (i := 670) (by decide +kernel) rfl) (gw_cons (gw_mem (i := 672) (by decide +kernel) rfl) (gw_cons (gw_mem (i := 674) (by decide +kernel) rfl) (gw_cons (gw_mem (i := 676) (by decide +kernel) rfl) (gw_cons (gw_mem (i := 678) (by decide +kernel) rfl) ((fun _ h => absurd h List.not_mem_nil))))))))
def RVa : String := "NameMerges$Variant"
def TVa : u_T := fun k => match k with
  | 0 => ("NameMerges$Variant", "text", "Ljava/lang/String;", true)
  | _ => ("NameMerges$Variant", "inForce", "LNameMerges$Days;", true)
def tVa : Nat → FieldType := fun k => match k with
  | 0 => .object "java/lang/String"
  | _ => .object "NameMerges$Days"
theorem nVa : ∀ a, a < 2 → ∀ b, b < 2 → a ≠ b → (TVa a).2.1 ≠ (TVa b).2.1 := by decide +kernel
theorem tVa_ok : ∀ k, k < 2 → parseFieldDescriptor (TVa k).2.2.1 = some (tVa k) := by decide +kernel
theorem iVa : ∀ w ∈ u_ws RVa TVa 2, w ∈ gw := by
  have h : u_ws RVa TVa 2 = [Cond.laysFinal "NameMerges$Variant" "NameMerges$Variant" "text" "Ljava/lang/String;", Cond.laysFinal "NameMerges$Variant" "NameMerges$Variant" "inForce" "LNameMerges$Days;"] := by rfl
  rw [h]
  exact gw_cons (gw_mem (i := 788) (by decide +kernel) rfl) (gw_cons (gw_mem (i := 790) (by decide +kernel) rfl) ((fun _ h => absurd h List.not_mem_nil)))
def RDa : String := "NameMerges$Days"
def TDa : u_T := fun k => match k with
  | 0 => ("NameMerges$Days", "from", "I", true)
  | _ => ("NameMerges$Days", "to", "I", true)
def tDa : Nat → FieldType := fun k => match k with
  | 0 => .int
  | _ => .int
theorem nDa : ∀ a, a < 2 → ∀ b, b < 2 → a ≠ b → (TDa a).2.1 ≠ (TDa b).2.1 := by decide +kernel
theorem tDa_ok : ∀ k, k < 2 → parseFieldDescriptor (TDa k).2.2.1 = some (tDa k) := by decide +kernel
theorem iDa : ∀ w ∈ u_ws RDa TDa 2, w ∈ gw := by
  have h : u_ws RDa TDa 2 = [Cond.laysFinal "NameMerges$Days" "NameMerges$Days" "from" "I", Cond.laysFinal "NameMerges$Days" "NameMerges$Days" "to" "I"] := by rfl
  rw [h]
  exact gw_cons (gw_mem (i := 775) (by decide +kernel) rfl) (gw_cons (gw_mem (i := 777) (by decide +kernel) rfl) ((fun _ h => absurd h List.not_mem_nil)))
def RMe : String := "NameMerges$Merge"
def TMe : u_T := fun k => match k with
  | 0 => ("NameMerges$Merge", "both", "I", true)
  | 1 => ("NameMerges$Merge", "told", "I", true)
  | _ => ("NameMerges$Merge", "parted", "I", false)
def tMe : Nat → FieldType := fun k => match k with
  | 0 => .int
  | 1 => .int
  | _ => .int
theorem nMe : ∀ a, a < 3 → ∀ b, b < 3 → a ≠ b → (TMe a).2.1 ≠ (TMe b).2.1 := by decide +kernel
theorem tMe_ok : ∀ k, k < 3 → parseFieldDescriptor (TMe k).2.2.1 = some (tMe k) := by decide +kernel
theorem iMe : ∀ w ∈ u_ws RMe TMe 3, w ∈ gw := by
  have h : u_ws RMe TMe 3 = [Cond.laysFinal "NameMerges$Merge" "NameMerges$Merge" "both" "I", Cond.laysFinal "NameMerges$Merge" "NameMerges$Merge" "told" "I", Cond.lays "NameMerges$Merge" "NameMerges$Merge" "parted" "I"] := by rfl
  rw [h]
  exact gw_cons (gw_mem (i := 865) (by decide +kernel) rfl) (gw_cons (gw_mem (i := 867) (by decide +kernel) rfl) (gw_cons (gw_mem (i := 869) (by decide +kernel) rfl) ((fun _ h => absurd h List.not_mem_nil))))
def RAL : String := "java/util/ArrayList"
def TAL : u_T := fun k => match k with
  | 0 => ("java/util/ArrayList", "elementData", "[Ljava/lang/Object;", false)
  | 1 => ("java/util/ArrayList", "size", "I", false)
  | _ => ("java/util/AbstractList", "modCount", "I", false)
def tAL : Nat → FieldType := fun k => match k with
  | 0 => .array (.object "java/lang/Object")
  | 1 => .int
  | _ => .int
theorem nAL : ∀ a, a < 3 → ∀ b, b < 3 → a ≠ b → (TAL a).2.1 ≠ (TAL b).2.1 := by decide +kernel
theorem tAL_ok : ∀ k, k < 3 → parseFieldDescriptor (TAL k).2.2.1 = some (tAL k) := by decide +kernel
theorem iAL : ∀ w ∈ u_ws RAL TAL 3, w ∈ gw := by
  have h : u_ws RAL TAL 3 = [Cond.lays "java/util/ArrayList" "java/util/ArrayList" "elementData" "[Ljava/lang/Object;", Cond.lays "java/util/ArrayList" "java/util/ArrayList" "size" "I", Cond.lays "java/util/ArrayList" "java/util/AbstractList" "modCount" "I"] := by rfl
  rw [h]
  exact gw_cons (gw_mem (i := 119) (by decide +kernel) rfl) (gw_cons (gw_mem (i := 121) (by decide +kernel) rfl) (gw_cons (gw_mem (i := 123) (by decide +kernel) rfl) ((fun _ h => absurd h List.not_mem_nil))))
def RSB : String := "java/lang/StringBuilder"
def TSB : u_T := fun k => match k with
  | 0 => ("java/lang/AbstractStringBuilder", "value", "[B", false)
  | 1 => ("java/lang/AbstractStringBuilder", "coder", "B", false)
  | 2 => ("java/lang/AbstractStringBuilder", "maybeLatin1", "Z", false)
  | _ => ("java/lang/AbstractStringBuilder", "count", "I", false)
def tSB : Nat → FieldType := fun k => match k with
  | 0 => .array (.byte)
  | 1 => .byte
  | 2 => .boolean
  | _ => .int
theorem nSB : ∀ a, a < 4 → ∀ b, b < 4 → a ≠ b → (TSB a).2.1 ≠ (TSB b).2.1 := by decide +kernel
theorem tSB_ok : ∀ k, k < 4 → parseFieldDescriptor (TSB k).2.2.1 = some (tSB k) := by decide +kernel
theorem iSB : ∀ w ∈ u_ws RSB TSB 4, w ∈ gw := by
  have h : u_ws RSB TSB 4 = [Cond.lays "java/lang/StringBuilder" "java/lang/AbstractStringBuilder" "value" "[B", Cond.lays "java/lang/StringBuilder" "java/lang/AbstractStringBuilder" "coder" "B", Cond.lays "java/lang/StringBuilder" "java/lang/AbstractStringBuilder" "maybeLatin1" "Z", Cond.lays "java/lang/StringBuilder" "java/lang/AbstractStringBuilder" "count" "I"] := by rfl
  rw [h]
  exact gw_cons (gw_mem (i := 90) (by decide +kernel) rfl) (gw_cons (gw_mem (i := 92) (by decide +kernel) rfl) (gw_cons (gw_mem (i := 94) (by decide +kernel) rfl) (gw_cons (gw_mem (i := 96) (by decide +kernel) rfl) ((fun _ h => absurd h List.not_mem_nil)))))
def RSg : String := "java/lang/String"
def TSg : u_T := fun k => match k with
  | 0 => ("java/lang/String", "value", "[B", true)
  | 1 => ("java/lang/String", "coder", "B", true)
  | 2 => ("java/lang/String", "hash", "I", false)
  | _ => ("java/lang/String", "hashIsZero", "Z", false)
def tSg : Nat → FieldType := fun k => match k with
  | 0 => .array (.byte)
  | 1 => .byte
  | 2 => .int
  | _ => .boolean
theorem nSg : ∀ a, a < 4 → ∀ b, b < 4 → a ≠ b → (TSg a).2.1 ≠ (TSg b).2.1 := by decide +kernel
theorem tSg_ok : ∀ k, k < 4 → parseFieldDescriptor (TSg k).2.2.1 = some (tSg k) := by decide +kernel
theorem iSg : ∀ w ∈ u_ws RSg TSg 4, w ∈ gw := by
  have h : u_ws RSg TSg 4 = [Cond.laysFinal "java/lang/String" "java/lang/String" "value" "[B", Cond.laysFinal "java/lang/String" "java/lang/String" "coder" "B", Cond.lays "java/lang/String" "java/lang/String" "hash" "I", Cond.lays "java/lang/String" "java/lang/String" "hashIsZero" "Z"] := by rfl
  rw [h]
  exact gw_cons (gw_mem (i := 441) (by decide +kernel) rfl) (gw_cons (gw_mem (i := 443) (by decide +kernel) rfl) (gw_cons (gw_mem (i := 445) (by decide +kernel) rfl) (gw_cons (gw_mem (i := 447) (by decide +kernel) rfl) ((fun _ h => absurd h List.not_mem_nil)))))
abbrev vwCl : List vw_C := [(RMd, TMd, 28), (RNm, TNm, 8), (RNa, TNa, 7), (RVa, TVa, 2), (RDa, TDa, 2), (RMe, TMe, 3), (RAL, TAL, 3), (RSB, TSB, 4), (RSg, TSg, 4)]
abbrev tyl (cs : Nat → ClassId) : List (ClassId × FieldType) := [(cs 0, .int), (cs 1, .boolean), (cs 2, .byte), (cs 3, .long), (cs 4, .object "java/lang/Object")]
end
section
/-! HEAP BY FACTS: a heap is known by facts 'va_at D cl (address, contents) H'; a row that writes or makes says what it did to ONE address, and that all others are as they were. -/
section HX
variable {p : Program} {l : Launch} {e : Env} {R : Room} {s : State} {m : MethodId} {args : Array Value} {below : List Frame} {meth : Method} {c : Code} {H : Heap} {locs : List Loc} {cells slots : Nat} {Q : State → Prop}
variable {cc : ByteArray} {pc : Nat} {ls : Array Slot} {rest st0 : List Value} {D : va_G} {cl : List vw_C} {tys : List (ClassId × FieldType)} {a : Nat} {A A0 A1 : Nat → Prop} {H0 : Heap}
theorem hx_P {q : Nat × va_E} (h : va_at D cl q H) : va_P D cl [q] H := by
  intro k x hk
  cases k with
  | zero => cases hk; exact h
  | succ k => cases hk
theorem hx_get (hexec : p.tables.exec = Jvm.exec) (hb : c.code = cc) {own ref C : String} {T : u_T} {N ci index : Nat} {Ts : List Cond} (hts : ∀ w ∈ Ts, w.before args s = true) (hin : ∀ w ∈ u_ws C T N, w ∈ Ts) (hown : s.vm.findClass own = some m.cls) (hK : va_K D cl tys s) {fs : List Value} (h : va_at D cl (a, .inr (ci, fs)) H) (hc : cl[ci]? = some (C, T, N)) (k : Nat) (hk : k < N) (hlink : (Cond.fieldLink own index ref (T k).2.1 (T k).2.2.1).before args s = true) (hsame : ∀ x, s.fieldFound? (T k).1 (T k).2.1 (T k).2.2.1 = some x → s.fieldFound? ref (T k).2.1 (T k).2.2.1 = some x) {v : Value} (hv : fs[k]? = some v) (hdg : decode cc pc = .ok (.getfield index, 3))
    (kk : W p l e R s m args below meth c H locs cells slots Q (F0 m (pc + 3) ls (v :: rest))) : W p l e R s m args below meth c H locs cells slots Q (F0 m pc ls (.ref a :: rest)) :=
  va_get hexec hb hts hin hown hK (hx_P h) 0 rfl hc k hk hlink hsame hv hdg kk
theorem hx_put (hexec : p.tables.exec = Jvm.exec) (hb : c.code = cc) {own ref C : String} {T : u_T} {N ci index : Nat} {Ts : List Cond} (hts : ∀ w ∈ Ts, w.before args s = true) (hin : ∀ w ∈ u_ws C T N, w ∈ Ts) (ty0 : Nat → FieldType) (hty : ∀ k, k < N → parseFieldDescriptor (T k).2.2.1 = some (ty0 k)) (hnm : ∀ a, a < N → ∀ b, b < N → a ≠ b → (T a).2.1 ≠ (T b).2.1) (hown : s.vm.findClass own = some m.cls) (hK : va_K D cl tys s) {fs : List Value} (h : va_at D cl (a, .inr (ci, fs)) H) (hS : va_S A H0 H locs) (hA : A a) (hc : cl[ci]? = some (C, T, N)) (k : Nat) (hk : k < N) (hlink : (Cond.fieldLink own index ref (T k).2.1 (T k).2.2.1).before args s = true) (hsame : ∀ x, s.fieldFound? (T k).1 (T k).2.1 (T k).2.2.1 = some x → s.fieldFound? ref (T k).2.1 (T k).2.2.1 = some x) (hfin : (T k).2.2.2 = false) {ty : FieldType} {v : Value} (hd : parseFieldDescriptor (T k).2.2.1 = some ty) (hn : narrow ty v = v) (hfit : fits ty v = true) (hl : k < fs.length)
    (hdg : decode cc pc = .ok (.putfield index, 3)) (kk : ∀ (H1 : Heap) (locs1 : List Loc), va_at D cl (a, .inr (ci, fs.set k v)) H1 → H1.size = H.size → (∀ q : Nat, q ≠ a → H1[q]? = H[q]?) → va_S A H0 H1 locs1 → W p l e R s m args below meth c H1 locs1 cells slots Q (F0 m (pc + 3) ls rest)) : W p l e R s m args below meth c H locs cells slots Q (F0 m pc ls (v :: .ref a :: rest)) := by
  have hap := va_apart (own := own) hts hin ty0 hty hnm hK hc
  obtain ⟨r, h1, cell, q1, q2, q3, q4⟩ := h
  cases Option.some.inj (h1.symm.trans hc)
  obtain ⟨hSl, hfc, kC, hkC, hkind⟩ := hK.1 ci _ hc
  obtain ⟨cf, kf, fi, f, hi, hsl⟩ := hSl k hk
  have hlay := hts _ (hin _ (u_in_lay hk))
  unfold u_lay at hlay
  rw [if_neg (by rw [hfin]; decide)] at hlay
  refine W.putK hexec hb (f := f) ⟨hown, hlink, ⟨_, _, _, hsame _ hi⟩, (u_facts hfc hkC (u_lays hts hin hk) hi).1⟩ (by rw [q2]; exact u_store hfc hkC hkind hlay hi hd hn hfit) q1 q3 (by rw [hsl]; exact k2_hasslot (q4 k hk)) rfl rfl hdg fun H' e1 e2 e3 => ?_
  rw [hsl] at e1 ⊢
  exact kk H' _ ⟨_, hc, t_OB.to (V := updV (vp_V fs) k v) ⟨_, e1, q2, q3, t_set q4 hap hk v⟩ (fun j _ => vp_updV_set hl v j)⟩ e2 e3 (hS.put e2 e3 hA)
theorem hx_putF (hexec : p.tables.exec = Jvm.exec) (hb : c.code = cc) {own ref C : String} {T : u_T} {N ci index : Nat} {Ts : List Cond} (hts : ∀ w ∈ Ts, w.before args s = true) (hin : ∀ w ∈ u_ws C T N, w ∈ Ts) (ty0 : Nat → FieldType) (hty : ∀ k, k < N → parseFieldDescriptor (T k).2.2.1 = some (ty0 k)) (hnm : ∀ a, a < N → ∀ b, b < N → a ≠ b → (T a).2.1 ≠ (T b).2.1) (hown : s.vm.findClass own = some m.cls) (hK : va_K D cl tys s) {fs : List Value} (h : va_at D cl (a, .inr (ci, fs)) H) (hS : va_S A H0 H locs) (hA : A a) (hc : cl[ci]? = some (C, T, N)) (k : Nat) (hk : k < N) (hlink : (Cond.fieldLink own index ref (T k).2.1 (T k).2.2.1).before args s = true) (hsame : ∀ x, s.fieldFound? (T k).1 (T k).2.1 (T k).2.2.1 = some x → s.fieldFound? ref (T k).2.1 (T k).2.2.1 = some x) (hfin : (T k).2.2.2 = true) (hin2 : meth.name = "<init>") (hdecl : (T k).1 = own) {ty : FieldType} {v : Value} (hd : parseFieldDescriptor (T k).2.2.1 = some ty) (hn : narrow ty v = v) (hfit : fits ty v = true) (hl : k < fs.length)
    (hdg : decode cc pc = .ok (.putfield index, 3)) (kk : ∀ (H1 : Heap) (locs1 : List Loc), va_at D cl (a, .inr (ci, fs.set k v)) H1 → H1.size = H.size → (∀ q : Nat, q ≠ a → H1[q]? = H[q]?) → va_S A H0 H1 locs1 → W p l e R s m args below meth c H1 locs1 cells slots Q (F0 m (pc + 3) ls rest)) : W p l e R s m args below meth c H locs cells slots Q (F0 m pc ls (v :: .ref a :: rest)) := by
  have hap := va_apart (own := own) hts hin ty0 hty hnm hK hc
  obtain ⟨r, h1, cell, q1, q2, q3, q4⟩ := h
  cases Option.some.inj (h1.symm.trans hc)
  obtain ⟨hSl, hfc, kC, hkC, hkind⟩ := hK.1 ci _ hc
  obtain ⟨cf, kf, fi, f, hi, hsl⟩ := hSl k hk
  have hlay := hts _ (hin _ (u_in_lay hk))
  unfold u_lay at hlay
  rw [if_pos hfin] at hlay
  have hcf : m.cls = cf := by
    obtain ⟨_, _, c', _, _, _, -, -, hf', -, -, -, hown2, -⟩ := Cond.laysFinal_spec hlay
    have e1 : c' = cf := by have := hi.symm.trans hf'; simp at this; exact this.1.symm
    rw [hdecl] at hown2
    rw [← e1]; exact Option.some.inj (hown.symm.trans hown2)
  refine W.putFinK hexec hb hown hlink (hsame _ hi) (u_facts hfc hkC (u_lays hts hin hk) hi).1 hcf hin2 (by rw [q2]; exact u_fits hfc hkC hkind (Or.inr hlay) hi hd hn hfit) q1 q3 (by rw [hsl]; exact k2_hasslot (q4 k hk)) rfl rfl hdg fun H' e1 e2 e3 => ?_
  rw [hsl] at e1 ⊢
  exact kk H' _ ⟨_, hc, t_OB.to (V := updV (vp_V fs) k v) ⟨_, e1, q2, q3, t_set q4 hap hk v⟩ (fun j _ => vp_updV_set hl v j)⟩ e2 e3 (hS.put e2 e3 hA)
theorem hx_new (hexec : p.tables.exec = Jvm.exec) (hb : c.code = cc) {own C : String} {T : u_T} {N ci index : Nat} {Ts : List Cond} (hts : ∀ w ∈ Ts, w.before args s = true) (hin : ∀ w ∈ u_ws C T N, w ∈ Ts) (ty : Nat → FieldType) (hty : ∀ k, k < N → parseFieldDescriptor (T k).2.2.1 = some (ty k)) (hown : s.vm.findClass own = some m.cls) (hcl : (Cond.classLink own index C).before args s = true) (hinst : (Cond.instantiable C N).before args s = true) (hini : (Cond.initialized C).before args s = true)
    (hK : va_K D cl tys s) (hS : va_S A H0 H locs) (hc : cl[ci]? = some (C, T, N)) {fs : List Value} (hfs : ∀ j, j < N → defaultValue (ty j) = vp_V fs j) (hcells : cells + 1 ≤ R.cells) (hslots : slots + N ≤ R.slots) (hdg : decode cc pc = .ok (.new index, 3))
    (kk : ∀ (H1 : Heap), va_at D cl (H.size, .inr (ci, fs)) H1 → H1.size = H.size + 1 → (∀ q : Nat, q < H.size → H1[q]? = H[q]?) → va_S A H0 H1 locs →
      W p l e R s m args below meth c H1 locs (cells + 1) (slots + N) Q (F0 m (pc + 3) ls (.ref H.size :: rest))) : W p l e R s m args below meth c H locs cells slots Q (F0 m pc ls rest) := by
  have hKn := hK.1 ci _ hc
  refine W.newcK hexec hb hown hcl hinst hini rfl hdg hcells hslots hKn.2.1 rfl fun H1 kC hkC e1 z1 o1 => ?_
  exact kk H1 ⟨_, hc, (u_born ty hts hin hKn hkC e1 hty).to hfs⟩ z1 o1 ⟨Nat.le_trans hS.1 (by omega), fun x h1 h2 => (o1 x (Nat.lt_of_lt_of_le h1 hS.1)).trans (hS.2.1 x h1 h2), hS.2.2⟩
theorem hx_S1 {H1 : Heap} (hS : va_S A H0 H locs) (z : H.size ≤ H1.size) (o : ∀ q : Nat, q < H.size → H1[q]? = H[q]?) : va_S A H0 H1 locs := ⟨Nat.le_trans hS.1 z, fun x h1 h2 => (o x (Nat.lt_of_lt_of_le h1 hS.1)).trans (hS.2.1 x h1 h2), hS.2.2⟩

theorem hx_newa (hexec : p.tables.exec = Jvm.exec) (hb : c.code = cc) {atype : ArrayType} (harr : (Cond.arrayClass (newarray.typeOf atype)).before args s = true) (hK : va_K D cl tys s) (hS : va_S A H0 H locs) (t0 : Nat) {cA : ClassId} (ht : tys[t0]? = some (cA, newarray.typeOf atype))
    {n : Int32} {N' : Nat} {a0 : vp_A} (ha : vp_cell cA a0 = arrV cA N' (fun _ => defaultValue (newarray.typeOf atype))) (hn : ¬ n < 0) (hN : n.toNatClampNeg = N') (hbytes : N' * componentBytes (newarray.typeOf atype) ≤ 536870912) (hcells : cells + 1 ≤ R.cells) (hslots : slots + N' ≤ R.slots) (hdg : decode cc pc = .ok (.newarray atype, 2))
    (kk : ∀ (H1 : Heap), va_at D cl (H.size, .inl (cA, a0)) H1 → H1.size = H.size + 1 → (∀ q : Nat, q < H.size → H1[q]? = H[q]?) → va_S A H0 H1 locs →
      W p l e R s m args below meth c H1 locs (cells + 1) (slots + N') Q (F0 m (pc + 2) ls (.ref H.size :: rest))) : W p l e R s m args below meth c H locs cells slots Q (F0 m pc ls (.int n :: rest)) := by
  refine va_newaK hexec hb harr rfl hdg rfl hn hN hbytes hcells hslots rfl fun H1 cB e1 z1 o1 hAr hNm => ?_
  have hc : cB = cA := by
    have h2 := (hK.2 t0 _ ht).2
    have h3 : s.vm.findClass ("[" ++ (newarray.typeOf atype).toString) = some cA := by cases atype <;> exact h2
    exact Option.some.inj (hNm.symm.trans h3)
  subst hc
  refine kk H1 ?_ z1 o1 (hx_S1 hS (by omega) o1)
  show H1[H.size]? = some (vp_cell _ _)
  rw [ha]
  exact e1
theorem hx_newq (hexec : p.tables.exec = Jvm.exec) (hb : c.code = cc) {own C : String} {index : Nat} (hown : s.vm.findClass own = some m.cls) (hclink : (Cond.classLink own index C).before args s = true) (hover : (Cond.arrayOver (.object C)).before args s = true) (hK : va_K D cl tys s) (hS : va_S A H0 H locs) (t0 : Nat) {cA : ClassId} (ht : tys[t0]? = some (cA, .object C))
    {n : Int32} {N' : Nat} (hn : ¬ n < 0) (hN : n.toNatClampNeg = N') (hbytes : N' * 4 ≤ 536870912) (hcells : cells + 1 ≤ R.cells) (hslots : slots + N' ≤ R.slots) (hdg : decode cc pc = .ok (.anewarray index, 3))
    (kk : ∀ (H1 : Heap), va_at D cl (H.size, .inl (cA, N', .inr (.inr (.inr (.inr (fun _ => none)))))) H1 → H1.size = H.size + 1 → (∀ q : Nat, q < H.size → H1[q]? = H[q]?) → va_S A H0 H1 locs →
      W p l e R s m args below meth c H1 locs (cells + 1) (slots + N') Q (F0 m (pc + 3) ls (.ref H.size :: rest))) : W p l e R s m args below meth c H locs cells slots Q (F0 m pc ls (.int n :: rest)) := by
  subst hN
  refine W.anew hexec hb hown hclink hover rfl hdg rfl hn hbytes hcells hslots fun cB kB comp f1 f2 f3 f4 => ?_
  obtain ⟨kA, comp', g1, g2, g3, g4⟩ := (hK.2 t0 _ ht).2
  have hc : cB = cA := Option.some.inj (f1.symm.trans g4)
  subst hc
  generalize hH1 : H.push ({ cls := cB, slots := Array.replicate n.toNatClampNeg .null, vm := .none } : Cell) = H1
  have z1 : H1.size = H.size + 1 := by rw [← hH1, Array.size_push]
  have e1 : H1[H.size]? = some (arrV cB n.toNatClampNeg (fun _ => .null)) := by rw [← hH1, Array.getElem?_push_size, ← arrV_new]
  have o1 : ∀ q : Nat, q < H.size → H1[q]? = H[q]? := fun q hq => by rw [← hH1, Array.getElem?_push, if_neg (Nat.ne_of_lt hq)]
  exact kk H1 e1 z1 o1 (hx_S1 hS (by omega) o1)
theorem hx_iald (hexec : p.tables.exec = Jvm.exec) (hb : c.code = cc) (hK : va_K D cl tys s) (t0 : Nat) {cA : ClassId} {n : Nat} {f : Nat → Int32} (h : va_at D cl (a, .inl (cA, n, .inl f)) H) (ht : tys[t0]? = some (cA, .int)) {i : Int32} (hin : vp_in i n) (hdg : decode cc pc = .ok (.iaload, 1))
    (kk : W p l e R s m args below meth c H locs cells slots Q (F0 m (pc + 1) ls (.int (f i.toNatClampNeg) :: rest))) : W p l e R s m args below meth c H locs cells slots Q (F0 m pc ls (.int i :: .ref a :: rest)) :=
  va_iald hexec hb hK (hx_P h) 0 t0 rfl ht hin hdg kk
theorem hx_bald (hexec : p.tables.exec = Jvm.exec) (hb : c.code = cc) (hK : va_K D cl tys s) (t0 : Nat) {cA : ClassId} {n : Nat} {f : Nat → Int32} (h : va_at D cl (a, .inl (cA, n, .inl f)) H) (ht : tys[t0]? = some (cA, .byte)) {i : Int32} (hin : vp_in i n) (hdg : decode cc pc = .ok (.baload, 1))
    (kk : W p l e R s m args below meth c H locs cells slots Q (F0 m (pc + 1) ls (.int (f i.toNatClampNeg) :: rest))) : W p l e R s m args below meth c H locs cells slots Q (F0 m pc ls (.int i :: .ref a :: rest)) :=
  va_bald hexec hb hK (hx_P h) 0 t0 rfl ht hin hdg kk
theorem hx_zald (hexec : p.tables.exec = Jvm.exec) (hb : c.code = cc) (hK : va_K D cl tys s) (t0 : Nat) {cA : ClassId} {n : Nat} {f : Nat → Int32} (h : va_at D cl (a, .inl (cA, n, .inl f)) H) (ht : tys[t0]? = some (cA, .boolean)) {i : Int32} (hin : vp_in i n) (hdg : decode cc pc = .ok (.baload, 1))
    (kk : W p l e R s m args below meth c H locs cells slots Q (F0 m (pc + 1) ls (.int (f i.toNatClampNeg) :: rest))) : W p l e R s m args below meth c H locs cells slots Q (F0 m pc ls (.int i :: .ref a :: rest)) :=
  va_zald hexec hb hK (hx_P h) 0 t0 rfl ht hin hdg kk
theorem hx_lald (hexec : p.tables.exec = Jvm.exec) (hb : c.code = cc) (hK : va_K D cl tys s) (t0 : Nat) {cA : ClassId} {n : Nat} {f : Nat → Int64} (h : va_at D cl (a, .inl (cA, n, .inr (.inl f))) H) (ht : tys[t0]? = some (cA, .long)) {i : Int32} (hin : vp_in i n) (hdg : decode cc pc = .ok (.laload, 1))
    (kk : W p l e R s m args below meth c H locs cells slots Q (F0 m (pc + 1) ls (.long (f i.toNatClampNeg) :: rest))) : W p l e R s m args below meth c H locs cells slots Q (F0 m pc ls (.int i :: .ref a :: rest)) :=
  va_lald hexec hb hK (hx_P h) 0 t0 rfl ht hin hdg kk
theorem hx_aald (hexec : p.tables.exec = Jvm.exec) (hb : c.code = cc) (hK : va_K D cl tys s) (t0 : Nat) {cA : ClassId} {C : String} {n : Nat} {f : Nat → Option Nat} (h : va_at D cl (a, .inl (cA, n, .inr (.inr (.inr (.inr f))))) H) (ht : tys[t0]? = some (cA, .object C)) {i : Int32} (hin : vp_in i n) (hdg : decode cc pc = .ok (.aaload, 1))
    (kk : W p l e R s m args below meth c H locs cells slots Q (F0 m (pc + 1) ls (va_rf (f i.toNatClampNeg) :: rest))) : W p l e R s m args below meth c H locs cells slots Q (F0 m pc ls (.int i :: .ref a :: rest)) :=
  va_aldq hexec hb hK (hx_P h) 0 t0 rfl ht hin hdg kk
theorem hx_alen (hexec : p.tables.exec = Jvm.exec) (hb : c.code = cc) (hK : va_K D cl tys s) (t0 : Nat) {cA : ClassId} {x : vp_A} (h : va_at D cl (a, .inl (cA, x)) H) {ty : FieldType} (ht : tys[t0]? = some (cA, ty)) {v : Int32} (hv : Int32.ofNat x.1 = v) (hdg : decode cc pc = .ok (.arraylength, 1))
    (kk : W p l e R s m args below meth c H locs cells slots Q (F0 m (pc + 1) ls (.int v :: rest))) : W p l e R s m args below meth c H locs cells slots Q (F0 m pc ls (.ref a :: rest)) :=
  va_alen hexec hb hK (hx_P h) 0 t0 rfl ht hv hdg kk
theorem hx_iast (hexec : p.tables.exec = Jvm.exec) (hb : c.code = cc) (hK : va_K D cl tys s) (hS : va_S A H0 H locs) (hA : A a) (t0 : Nat) {cA : ClassId} {n : Nat} {f : Nat → Int32} (h : va_at D cl (a, .inl (cA, n, .inl f)) H) (ht : tys[t0]? = some (cA, .int)) {i : Int32} {x : Int32} (hin : vp_in i n) (hdg : decode cc pc = .ok (.iastore, 1))
    (kk : ∀ (H1 : Heap) (locs1 : List Loc), va_at D cl (a, .inl (cA, n, .inl (upd f i.toNatClampNeg x))) H1 → H1.size = H.size → (∀ q : Nat, q ≠ a → H1[q]? = H[q]?) → va_S A H0 H1 locs1 → W p l e R s m args below meth c H1 locs1 cells slots Q (F0 m (pc + 1) ls rest)) : W p l e R s m args below meth c H locs cells slots Q (F0 m pc ls (.int x :: .int i :: .ref a :: rest)) := by
  refine W.iast hexec hb h ((hK.2 t0 _ ht).1 n (fun j => .int (f j))) (fun q => by cases q) (by show ¬ (i < 0 ∨ (arrV _ _ _).slots.size ≤ _); rw [arrV_size]; exact hin) rfl rfl hdg fun H1 e z oq => ?_
  refine kk H1 _ ?_ z oq (hS.put z oq hA)
  show H1[a]? = some (vp_cell _ _)
  rw [e, vp_cell_i, vp_cell_i, arrV_store]
  congr 2
  funext q
  by_cases hq : q = i.toNatClampNeg
  · subst hq
    simp [updV, upd]
  · simp [updV, upd, hq]
theorem hx_bast (hexec : p.tables.exec = Jvm.exec) (hb : c.code = cc) (hK : va_K D cl tys s) (hS : va_S A H0 H locs) (hA : A a) (t0 : Nat) {cA : ClassId} {n : Nat} {f : Nat → Int32} (h : va_at D cl (a, .inl (cA, n, .inl f)) H) (ht : tys[t0]? = some (cA, .byte)) {i : Int32} {x : Int32} (hin : vp_in i n) (hdg : decode cc pc = .ok (.bastore, 1))
    (kk : ∀ (H1 : Heap) (locs1 : List Loc), va_at D cl (a, .inl (cA, n, .inl (upd f i.toNatClampNeg (vp_nar .byte x)))) H1 → H1.size = H.size → (∀ q : Nat, q ≠ a → H1[q]? = H[q]?) → va_S A H0 H1 locs1 → W p l e R s m args below meth c H1 locs1 cells slots Q (F0 m (pc + 1) ls rest)) : W p l e R s m args below meth c H locs cells slots Q (F0 m pc ls (.int x :: .int i :: .ref a :: rest)) := by
  refine W.bast hexec hb h ((hK.2 t0 _ ht).1 n (fun j => .int (f j))) (fun q => by cases q) (by show ¬ (i < 0 ∨ (arrV _ _ _).slots.size ≤ _); rw [arrV_size]; exact hin) rfl rfl hdg fun H1 e z oq => ?_
  refine kk H1 _ ?_ z oq (hS.put z oq hA)
  show H1[a]? = some (vp_cell _ _)
  rw [e, vp_cell_i, vp_cell_i, arrV_store]
  congr 2
  funext q
  by_cases hq : q = i.toNatClampNeg
  · subst hq
    simp [updV, upd, vp_nar]
    try rfl
  · simp [updV, upd, hq]
theorem hx_zast (hexec : p.tables.exec = Jvm.exec) (hb : c.code = cc) (hK : va_K D cl tys s) (hS : va_S A H0 H locs) (hA : A a) (t0 : Nat) {cA : ClassId} {n : Nat} {f : Nat → Int32} (h : va_at D cl (a, .inl (cA, n, .inl f)) H) (ht : tys[t0]? = some (cA, .boolean)) {i : Int32} {x : Int32} (hin : vp_in i n) (hdg : decode cc pc = .ok (.bastore, 1))
    (kk : ∀ (H1 : Heap) (locs1 : List Loc), va_at D cl (a, .inl (cA, n, .inl (upd f i.toNatClampNeg (vp_nar .boolean x)))) H1 → H1.size = H.size → (∀ q : Nat, q ≠ a → H1[q]? = H[q]?) → va_S A H0 H1 locs1 → W p l e R s m args below meth c H1 locs1 cells slots Q (F0 m (pc + 1) ls rest)) : W p l e R s m args below meth c H locs cells slots Q (F0 m pc ls (.int x :: .int i :: .ref a :: rest)) := by
  refine W.zast hexec hb h ((hK.2 t0 _ ht).1 n (fun j => .int (f j))) (fun q => by cases q) (by show ¬ (i < 0 ∨ (arrV _ _ _).slots.size ≤ _); rw [arrV_size]; exact hin) rfl rfl hdg fun H1 e z oq => ?_
  refine kk H1 _ ?_ z oq (hS.put z oq hA)
  show H1[a]? = some (vp_cell _ _)
  rw [e, vp_cell_i, vp_cell_i, arrV_store]
  congr 2
  funext q
  by_cases hq : q = i.toNatClampNeg
  · subst hq
    simp [updV, upd, vp_nar]
    try rfl
  · simp [updV, upd, hq]
theorem hx_last (hexec : p.tables.exec = Jvm.exec) (hb : c.code = cc) (hK : va_K D cl tys s) (hS : va_S A H0 H locs) (hA : A a) (t0 : Nat) {cA : ClassId} {n : Nat} {f : Nat → Int64} (h : va_at D cl (a, .inl (cA, n, .inr (.inl f))) H) (ht : tys[t0]? = some (cA, .long)) {i : Int32} {x : Int64} (hin : vp_in i n) (hdg : decode cc pc = .ok (.lastore, 1))
    (kk : ∀ (H1 : Heap) (locs1 : List Loc), va_at D cl (a, .inl (cA, n, .inr (.inl (vp_updL f i.toNatClampNeg x)))) H1 → H1.size = H.size → (∀ q : Nat, q ≠ a → H1[q]? = H[q]?) → va_S A H0 H1 locs1 → W p l e R s m args below meth c H1 locs1 cells slots Q (F0 m (pc + 1) ls rest)) : W p l e R s m args below meth c H locs cells slots Q (F0 m pc ls (.long x :: .int i :: .ref a :: rest)) := by
  refine W.last hexec hb h ((hK.2 t0 _ ht).1 n (fun j => .long (f j))) (fun q => by cases q) (by show ¬ (i < 0 ∨ (arrV _ _ _).slots.size ≤ _); rw [arrV_size]; exact hin) rfl rfl hdg fun H1 e z oq => ?_
  refine kk H1 _ ?_ z oq (hS.put z oq hA)
  show H1[a]? = some (vp_cell _ _)
  rw [e, vp_cell_l, vp_cell_l, arrV_store]
  congr 2
  funext q
  by_cases hq : q = i.toNatClampNeg
  · subst hq
    simp [updV, vp_updL]
  · simp [updV, vp_updL, hq]
/-- a reference goes into an array of E's: what is stored is some object of the tables that is an E -/
theorem hx_aast (hexec : p.tables.exec = Jvm.exec) (hb : c.code = cc) (hK : va_K D cl tys s) (hS : va_S A H0 H locs) (hA : A a) (t0 : Nat) {E : String} {cA : ClassId} {n v : Nat} {f : Nat → Option Nat} (h : va_at D cl (a, .inl (cA, n, .inr (.inr (.inr (.inr f))))) H) (ht : tys[t0]? = some (cA, .object E)) (hr : va_Any E s H v) {i : Int32} (hin : vp_in i n) (hdg : decode cc pc = .ok (.aastore, 1))
    (kk : ∀ (H1 : Heap) (locs1 : List Loc), va_at D cl (a, .inl (cA, n, .inr (.inr (.inr (.inr (va_up f i.toNatClampNeg (some v))))))) H1 → H1.size = H.size → (∀ q : Nat, q ≠ a → H1[q]? = H[q]?) → va_S A H0 H1 locs1 → W p l e R s m args below meth c H1 locs1 cells slots Q (F0 m (pc + 1) ls rest)) : W p l e R s m args below meth c H locs cells slots Q (F0 m pc ls (.ref v :: .int i :: .ref a :: rest)) := by
  have hlt : i.toNatClampNeg < n := Nat.not_le.mp fun q => hin (Or.inr q)
  have h0 : ¬ i < 0 := fun q => hin (Or.inl q)
  obtain ⟨cellV, g1, g2, ⟨kV, g3⟩, g4⟩ := hr
  obtain ⟨kA, comp, k1, k2, k3, -⟩ := (hK.2 t0 _ ht).2
  obtain ⟨kC, hkC, -⟩ := Vm.findClass_spec k3
  refine W.aast hexec hb h (fun q h => by cases h) (fun h => by cases h) k1 k2 rfl hkC ⟨h0, by show _ < (arrV _ _ _).slots.size; rw [arrV_size]; exact hlt⟩ g1 (fun q h => by rw [h] at g2; cases g2) g3 (g4 _ k3) rfl rfl hdg fun H1 e z oq => ?_
  refine kk H1 _ ?_ z oq (hS.put z oq hA)
  show H1[a]? = some (vp_cell _ _)
  rw [e, vp_cell_q, vp_cell_q, arrV_store]
  congr 2
  funext q
  by_cases hq : q = i.toNatClampNeg
  · subst hq
    simp [updV, va_up, va_rf]
  · simp [updV, va_up, hq]
theorem hx_recv {ci : Nat} {q : vw_C} {fs : List Value} (hK : va_K D cl tys s) (hc : cl[ci]? = some q) (h : va_at D cl (a, .inr (ci, fs)) H) : ∃ cell : Cell, H[a]? = some cell ∧ cell.vm.isStatics = false ∧ s.vm.findClass q.1 = some cell.cls := va_recv hK (hx_P h) hc (q0 := 0) rfl
/-- a fact goes over to a later heap that is the same there -/
theorem hx_keep {H1 : Heap} {x : va_E} (h : va_at D cl (a, x) H) (hq : H1[a]? = H[a]?) : va_at D cl (a, x) H1 := va_at.kept (q := (a, x)) h hq
theorem hx_lt {x : va_E} (h : va_at D cl (a, x) H) : a < H.size := va_at.lt (q := (a, x)) h
end HX
end
section
/-! statics of references that no call writes: their words hold on -/
def gLs (C n d : String) (N0 : Nat) (U : State) : Prop := ∃ (c : ClassId) (k : Class) (i : Nat) (f : Field) (a : Nat) (cell : Cell) (v : Value), U.vm.findClass C = some c ∧ U.fieldFound? C n d = some (c, k, i, f) ∧ f.isStatic = true ∧ k.statics = some a ∧ a < N0 ∧ U.heap[a]? = some cell ∧ cell.vm.isStatics = true ∧ cell.cls = c ∧ f.slot < cell.slots.size ∧ k.staticTypes[f.slot]? = some f.type ∧ cell.slots[f.slot]? = some v ∧ (v = .null ∨ ∃ q, v = .ref q)
theorem gLs.of {C n d : String} {A : Array Value} {U : State} (hl : (Cond.laysStatic C n d).before A U = true) (hr : (Cond.isRef (.static C n d)).before A U = true) : gLs C n d U.heap.size U := by
  obtain ⟨c, k, i, f, a, cell, hc, hi, hst, ha, hcell, hs, hcls, hlt, hty⟩ := Cond.laysStatic_spec hl
  cases hv : (Term.static C n d).eval A U none [] U with
  | none => simp [Cond.before, Cond.holds, Cond.value, hv] at hr
  | some w =>
    obtain ⟨hst', a', cell', ha', hcell', -, hslot⟩ := Term.static_spec hi hv
    cases ha.symm.trans ha'
    cases hcell.symm.trans hcell'
    refine ⟨c, k, i, f, a, cell, w, hc, hi, hst, ha, (Array.getElem?_eq_some_iff.mp hcell).1, hcell, hs, hcls, hlt, hty, hslot, ?_⟩
    simp only [Cond.before, Cond.holds, Cond.value, hv] at hr
    cases w with
    | null => exact Or.inl rfl
    | ref t => exact Or.inr ⟨t, rfl⟩
    | _ => simp at hr
theorem gLs.moved {C n d : String} {N0 : Nat} {u U : State} (hvm : u.vm.Alike U.vm) (hh : ∀ q : Nat, q < N0 → U.heap[q]? = u.heap[q]?) (h : gLs C n d N0 u) : gLs C n d N0 U := by
  obtain ⟨c, k, i, f, a, cell, v, h1, h2, h3, h4, h5, h6, h7⟩ := h
  obtain ⟨k', hi', he⟩ := State.fieldFound?_setVm hvm h2
  exact ⟨c, k', i, f, a, cell, v, by rw [hvm.findClass]; exact h1, hi', h3, by rw [he]; exact h4, h5, by rw [hh a h5]; exact h6, h7.1, h7.2.1, h7.2.2.1, by rw [he]; exact h7.2.2.2.1, h7.2.2.2.2⟩
theorem gLs.lays {C n d : String} {N0 : Nat} {U : State} {A : Array Value} (h : gLs C n d N0 U) : (Cond.laysStatic C n d).before A U = true := by
  obtain ⟨c, k, i, f, a, cell, v, h1, h2, h3, h4, h5, h6, h7, h8, h9, h10, h11, h12⟩ := h
  simp [Cond.before, Cond.holds, Cond.value, h1, h2, h3, h4, h6, h7, h8, h9, h10]
theorem gLs.isRef {C n d : String} {N0 : Nat} {U : State} {A : Array Value} (h : gLs C n d N0 U) : (Cond.isRef (.static C n d)).before A U = true := by
  obtain ⟨c, k, i, f, a, cell, v, h1, h2, h3, h4, h5, h6, h7, h8, h9, h10, h11, h12⟩ := h
  have hn : U.fieldNamed? C n d true = some (c, k, f.slot) := by
    simp [State.fieldNamed?, h2, h3]
  have hv : (Term.static C n d).eval A U none [] U = some v := by
    simp [Term.eval, hn, h4, h6, h7, h11]
  rcases h12 with rfl | ⟨q, rfl⟩ <;> simp [Cond.before, Cond.holds, Cond.value, hv]
def zDcl : List MethodName := [⟨"java/lang/RuntimeException", "<init>", "()V"⟩, ⟨"java/lang/RuntimeException", "<init>", "(Ljava/lang/String;)V"⟩, ⟨"java/lang/Exception", "<init>", "()V"⟩, ⟨"java/lang/Exception", "<init>", "(Ljava/lang/String;)V"⟩, ⟨"java/lang/Throwable", "<init>", "()V"⟩, ⟨"java/lang/Throwable", "<init>", "(Ljava/lang/String;)V"⟩, ⟨"java/lang/Object", "getClass", "()Ljava/lang/Class;"⟩]
def zCst : List (String × String) := [("[B", "java/lang/Cloneable"), ("java/lang/IllegalArgumentException", "java/lang/IllegalArgumentException"), ("java/lang/IllegalStateException", "java/lang/IllegalStateException"), ("java/lang/IndexOutOfBoundsException", "java/lang/IndexOutOfBoundsException"), ("java/lang/ArrayIndexOutOfBoundsException", "java/lang/IndexOutOfBoundsException"), ("java/lang/StringIndexOutOfBoundsException", "java/lang/IndexOutOfBoundsException"), ("NameMerges$Merge", "NameMerges$Merge"), ("NameMerges$Name", "NameMerges$Name"), ("NameMerges$Variant", "NameMerges$Variant"), ("NameMerges", "java/lang/Object"), ("NameMergesModel", "java/lang/Object"), ("java/lang/String", "java/lang/Object"), ("NameMerges$Name", "java/lang/Object"), ("NameMerges$Variant", "java/lang/Object"), ("NameMerges$Days", "java/lang/Object"), ("NameMerges$Merge", "java/lang/Object")]
def zNcs : List (String × String) := [("java/lang/IndexOutOfBoundsException", "java/lang/IllegalStateException"), ("java/lang/IndexOutOfBoundsException", "java/lang/IllegalArgumentException"), ("java/lang/IllegalStateException", "java/lang/IndexOutOfBoundsException"), ("java/lang/IllegalStateException", "java/lang/IllegalArgumentException"), ("java/lang/IllegalArgumentException", "java/lang/IndexOutOfBoundsException"), ("java/lang/IllegalArgumentException", "java/lang/IllegalStateException")]
def zSts : List (String × Nat × String) := [("NameMerges", 49, "the pad is full"), ("NameMerges", 56, "this is no sign"), ("NameMerges", 70, "there are as many names as there may be"), ("NameMerges", 242, "there is no such name"), ("NameMerges", 89, "the name has as many variants as it may have"), ("NameMerges", 91, "the pad is empty"), ("NameMerges", 93, "there is no such language"), ("NameMerges", 248, "this is no day"), ("NameMerges", 250, "the days end ahead of their beginning"), ("NameMerges", 153, "there is no such pair"), ("NameMerges", 156, "there is no such side"), ("NameMerges", 246, "both are the same name"), ("NameMerges", 165, "there is no such kind of decision"), ("NameMerges", 167, "as many merges were told as may be"), ("NameMerges", 214, "no such name was found"), ("NameMerges", 244, "there is no such set"), ("NameMerges", 223, "this is no number outside"), ("NameMerges", 240, "nothing is counted there")]
abbrev zNst : Cond := Cond.methodLinkNest "NameMerges" 74 ⟨"NameMerges$Name", "<init>", "()V"⟩ "NameMerges"
/-- of the tables, beside the good words -/
def gW (U : State) : Prop := (∀ x ∈ zDcl, va_Nw (.declares x) U) ∧ (∀ q ∈ zCst, va_Nw (.castable q.1 q.2) U) ∧ (∀ q ∈ zNcs, va_Nc q.1 q.2 U) ∧ (∀ q ∈ zSts, ∃ a, vk_R q.1 q.2.1 q.2.2 a U) ∧ va_AO "java/lang/Object" U ∧ va_Nw zNst U
theorem gW.moved {u U : State} (hW : u.WarmedH U.vm) (h : gW u) : gW U :=
  ⟨fun x hx => va_Nw.warmD hW (h.1 x hx), fun q hq => va_Nw.warmC hW (h.2.1 q hq), fun q hq => va_Nc.moved hW.alike (h.2.2.1 q hq), fun q hq => (h.2.2.2.1 q hq).imp fun a ha => vk_R.warm hW ha, va_AO.moved hW.alike h.2.2.2.2.1, va_Nw.warmM hW h.2.2.2.2.2⟩
/-- of the heap: statics that no call writes; ad: the empty array of the lists -/
def gH (N0 ad : Nat) (U : State) : Prop := gLs "java/lang/Throwable" "UNASSIGNED_STACK" "[Ljava/lang/StackTraceElement;" N0 U ∧ gLs "java/lang/Throwable" "SUPPRESSED_SENTINEL" "Ljava/util/List;" N0 U ∧
  va_Z "java/lang/String" "COMPACT_STRINGS" "Z" (.int 1) (fun q => N0 ≤ q) U U.heap ∧ va_Z "java/util/ArrayList" "DEFAULTCAPACITY_EMPTY_ELEMENTDATA" "[Ljava/lang/Object;" (.ref ad) (fun q => N0 ≤ q) U U.heap ∧ va_T (.object "java/lang/Object") ad 0 (fun _ => .null) (fun q => N0 ≤ q) U U.heap
theorem gH.moved {N0 ad : Nat} {u U : State} (hvm : u.vm.Alike U.vm) (hh : ∀ q : Nat, q < N0 → U.heap[q]? = u.heap[q]?) (h : gH N0 ad u) : gH N0 ad U := by
  have hk : ∀ a : Nat, a < u.heap.size → ¬ (fun q => N0 ≤ q) a → U.heap[a]? = u.heap[a]? := fun a _ ha => hh a (Nat.lt_of_not_le ha)
  exact ⟨h.1.moved hvm hh, h.2.1.moved hvm hh, (h.2.2.1.kept hk).moved hvm, (h.2.2.2.1.kept hk).moved hvm, (h.2.2.2.2.kept hk).moved hvm⟩
end
section
/-! what is given at every method's start; contracts by heap facts; calls -/
def gB (D : va_G) (cs : Nat → ClassId) (N0 : Nat) (U : State) : Prop := va_K D vwCl (tyl cs) U ∧ N0 ≤ U.heap.size ∧ gW U ∧ gH N0 (cs 9) U
theorem gB.moved {D : va_G} {cs : Nat → ClassId} {N0 : Nat} {u U : State} (hW : u.WarmedH U.vm) (hz : u.heap.size ≤ U.heap.size) (hh : ∀ q : Nat, q < N0 → U.heap[q]? = u.heap[q]?) (h : gB D cs N0 u) : gB D cs N0 U := ⟨va_K.moved hW.alike h.1, Nat.le_trans h.2.1 hz, h.2.2.1.moved hW, h.2.2.2.moved hW.alike hh⟩
abbrev hPre (D : va_G) (cs : Nat → ClassId) (N0 : Nat) (av : List Value) (H : Heap) : Array Value → State → Prop := va_Pc av (fun U => U.heap = H ∧ gB D cs N0 U)
abbrev hQi (post : Int32 → Heap → Prop) (A : Nat → Prop) : Array Value → State → Outcome → State → Prop := va_Qi (S := Heap) post (fun u t => t.heap = u) A
abbrev hQv (post : Heap → Prop) (A : Nat → Prop) : Array Value → State → Outcome → State → Prop := va_Qv (S := Heap) post (fun u t => t.heap = u) A
abbrev hQq (post : Option Nat → Heap → Prop) (A : Nat → Prop) : Array Value → State → Outcome → State → Prop := va_Qq (S := Heap) post (fun u t => t.heap = u) A
theorem hPre.blind {D : va_G} {cs : Nat → ClassId} {N0 : Nat} {av : List Value} {H : Heap} : FrameBlind (hPre D cs N0 av H) := fun _ U _ _ q => ⟨q.1, q.2.1, gB.moved (u := U) (State.WarmedH.refl U) (Nat.le_refl _) (fun _ _ => rfl) q.2.2⟩
theorem hPre.at {D : va_G} {cs : Nat → ClassId} {N0 : Nat} {av : List Value} {H : Heap} {s : State} {A : Nat → Prop} {locs : List Loc} (hB : gB D cs N0 s) (hS : va_S A s.heap H locs) (hA : ∀ q, A q → N0 ≤ q) : ∀ U : State, U.heap = H → s.WarmedH U.vm → hPre D cs N0 av H av.toArray U :=
  fun U hU hW => ⟨rfl, hU, gB.moved hW (by rw [hU]; exact hS.1) (fun q hq => by rw [hU]; exact hS.2.1 q (Nat.lt_of_lt_of_le hq hB.2.1) (fun h => absurd (hA q h) (Nat.not_le.mpr hq))) hB⟩
section HC
variable {p : Program} {l : Launch} {e : Env} {R : Room} {s : State} {m : MethodId} {args : Array Value} {below : List Frame} {meth : Method} {c : Code} {H : Heap} {locs : List Loc} {cells slots : Nat} {Q : State → Prop}
variable {cc : ByteArray} {pc mc ms : Nat} {ls : Array Slot} {rest st0 : List Value} {A0 A1 : Nat → Prop} {H0 : Heap} {av : Array Value}
theorem lv_eqi {x y : Int32} (h : x = y) (k : W p l e R s m args below meth c H locs cells slots Q (F0 m pc ls (.int y :: rest))) : W p l e R s m args below meth c H locs cells slots Q (F0 m pc ls (.int x :: rest)) := h ▸ k
theorem h_calli {post : Int32 → Heap → Prop} (hr : va_Run p l e R s m args below meth c H locs cells slots mc ms (F0 m pc ls st0) rest (hQi post A1 av) A1) (hS : va_S A0 H0 H locs) (hA : ∀ q, A1 q → A0 q)
    (kk : ∀ (r : Int32) (H1 : Heap) (locs1 : List Loc), post r H1 → H.size ≤ H1.size → (∀ q : Nat, q < H.size → ¬ A1 q → H1[q]? = H[q]?) → va_S A0 H0 H1 locs1 → W p l e R s m args below meth c H1 locs1 (cells + mc) (slots + ms) Q (F0 m (pc + 3) ls (.int r :: rest))) : W p l e R s m args below meth c H locs cells slots Q (F0 m pc ls st0) :=
  va_calli hr hS (fun q _ h => hA q h) hA (fun r u t H1 locs1 ht _ hp hb hz hk hS1 => by
    have hu : u = H1 := hb.symm.trans ht
    subst hu
    exact kk r u locs1 hp hz hk hS1)
theorem h_callv {post : Heap → Prop} (hr : va_Run p l e R s m args below meth c H locs cells slots mc ms (F0 m pc ls st0) rest (hQv post A1 av) A1) (hS : va_S A0 H0 H locs) (hA : ∀ q, A1 q → A0 q)
    (kk : ∀ (H1 : Heap) (locs1 : List Loc), post H1 → H.size ≤ H1.size → (∀ q : Nat, q < H.size → ¬ A1 q → H1[q]? = H[q]?) → va_S A0 H0 H1 locs1 → W p l e R s m args below meth c H1 locs1 (cells + mc) (slots + ms) Q (F0 m (pc + 3) ls rest)) : W p l e R s m args below meth c H locs cells slots Q (F0 m pc ls st0) :=
  va_callv hr hS (fun q _ h => hA q h) hA (fun u t H1 locs1 ht _ hp hb hz hk hS1 => by
    have hu : u = H1 := hb.symm.trans ht
    subst hu
    exact kk u locs1 hp hz hk hS1)
end HC
/-! the reference's state: int fields i (thrown, padded, names, merges, pairs, finds), arrays f at the addresses g -/
def md_fs (g : Nat → Nat) (i : Nat → Int32) : List Value := [.int (i 0), .int (i 1), .ref (g 0), .int (i 2), .ref (g 1), .ref (g 2), .ref (g 3), .ref (g 4), .ref (g 5), .ref (g 6), .ref (g 7), .ref (g 8), .ref (g 9), .ref (g 10), .ref (g 11), .ref (g 12), .int (i 3), .ref (g 13), .ref (g 14), .ref (g 15), .ref (g 16), .ref (g 17), .int (i 4), .ref (g 18), .ref (g 19), .int (i 5), .ref (g 20), .ref (g 21)]
def md_ty (k : Nat) : Nat := match k with
  | 10 => 1
  | 11 => 1
  | _ => 0
def md_len (k : Nat) : Nat := match k with
  | 0 => 12 | 1 => 24 | 2 => 96 | 3 => 1152 | 4 => 96 | 5 => 96 | 6 => 96 | 7 => 24 | 8 => 24 | 9 => 576 | 10 => 576 | 11 => 576 | 12 => 96 | 13 => 60 | 14 => 60 | 15 => 60 | 16 => 60 | 17 => 24 | 18 => 276 | 19 => 276 | 20 => 24
  | _ => 169
def md_I (D : va_G) (cs : Nat → ClassId) (H : Heap) (x : Nat) (g : Nat → Nat) (i : Nat → Int32) (f : Nat → Nat → Int32) : Prop := va_at D vwCl (x, .inr (0, md_fs g i)) H ∧ ∀ k, k < 22 → va_at D vwCl (g k, .inl (cs (md_ty k), (md_len k, .inl (f k)))) H
def md_sep (N0 x : Nat) (g : Nat → Nat) : Prop := N0 ≤ x ∧ (∀ k, k < 22 → g k ≠ x ∧ N0 ≤ g k) ∧ ∀ j k, j < 22 → k < 22 → g j = g k → j = k
def md_A (x : Nat) (g : Nat → Nat) : Nat → Prop := fun q => q = x ∨ ∃ k, k < 22 ∧ q = g k
def updA (f : Nat → Nat → Int32) (k j : Nat) (v : Int32) : Nat → Nat → Int32 := fun a => if a = k then upd (f k) j v else f a
theorem md_sep.A {N0 x : Nat} {g : Nat → Nat} (h : md_sep N0 x g) : ∀ q, md_A x g q → N0 ≤ q := fun q hq => by
  rcases hq with rfl | ⟨k, hk, rfl⟩
  · exact h.1
  · exact (h.2.1 k hk).2
theorem md_I.puti {D : va_G} {cs : Nat → ClassId} {N0 x : Nat} {g : Nat → Nat} {i i' : Nat → Int32} {f : Nat → Nat → Int32} {H H1 : Heap} {fs : List Value} (h : md_I D cs H x g i f) (hs : md_sep N0 x g) (hat : va_at D vwCl (x, .inr (0, fs)) H1) (ho : ∀ q : Nat, q ≠ x → H1[q]? = H[q]?) (hf : fs = md_fs g i') : md_I D cs H1 x g i' f :=
  ⟨hf ▸ hat, fun k hk => hx_keep (h.2 k hk) (ho _ (hs.2.1 k hk).1)⟩
theorem md_I.puta {D : va_G} {cs : Nat → ClassId} {N0 x k j : Nat} {v : Int32} {g : Nat → Nat} {i : Nat → Int32} {f : Nat → Nat → Int32} {H H1 : Heap} (h : md_I D cs H x g i f) (hs : md_sep N0 x g) (hk : k < 22) (hat : va_at D vwCl (g k, .inl (cs (md_ty k), (md_len k, .inl (upd (f k) j v)))) H1) (ho : ∀ q : Nat, q ≠ g k → H1[q]? = H[q]?) : md_I D cs H1 x g i (updA f k j v) := by
  refine ⟨hx_keep h.1 (ho _ (fun e => (hs.2.1 k hk).1 e.symm)), fun a ha => ?_⟩
  by_cases hak : a = k
  · subst hak
    rw [show updA f a j v a = upd (f a) j v from if_pos rfl]
    exact hat
  · rw [show updA f k j v a = f a from if_neg hak]
    exact hx_keep (h.2 a ha) (ho _ (fun e => hak (hs.2.2 a k ha hk e)))
theorem updA_self (f : Nat → Nat → Int32) (k j : Nat) (v : Int32) : updA f k j v k = upd (f k) j v := if_pos rfl
theorem updA_ne {f : Nat → Nat → Int32} {k j a : Nat} {v : Int32} (h : a ≠ k) : updA f k j v a = f a := if_neg h
theorem upd_ne {f : Nat → Int32} {k j : Nat} {v : Int32} (h : j ≠ k) : upd f k v j = f j := if_neg h
theorem upd_self {f : Nat → Int32} {k : Nat} {v : Int32} : upd f k v k = v := if_pos rfl
end
